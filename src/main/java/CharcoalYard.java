import java.util.Arrays;
import java.util.NoSuchElementException;

/** A yard of charcoal clamps, its watchers' rules and its woods; see the document for every promise. */
public final class CharcoalYard {
    public static final int NONE = -1;

    private static final int MOST_RAIN = 9;
    private static final int MOST_WIND = 3;
    private static final int STILL_AIR = 4;
    private static final int HOURS_A_DAY = 24;
    private static final int EVERY_HOUR = 0xFFFFFF;
    private static final int UNSEEN_SMOKE = 9999;
    private static final int UNSEEN_BARE = 99;
    private static final int UNSEEN_COVER = 0;
    private static final int BASKET = 25;
    private static final int MOST_ROW = 20;
    private static final int NEGATIVE_ROW = -2;
    private static final int TOO_MANY_RULES = -100;

    private final Pile pile;
    private final Holes holes;
    private final Diary diary;
    private final Tape tape;
    private final Rules rules;
    private final RuleReader reader;
    private final Woods woods;
    private boolean lit;
    private int watched;
    private int baskets;

    public CharcoalYard() {
        pile = new Pile();
        holes = new Holes();
        diary = new Diary();
        tape = new Tape();
        rules = new Rules();
        reader = new RuleReader(tape, rules);
        woods = new Woods();
        lit = false;
        watched = EVERY_HOUR;
        baskets = 0;
    }

    // ---- built

    public boolean clamp(int rings, int heights) {
        if (rings < 1 || rings > Pile.MOST || heights < 1 || heights > Pile.MOST) {
            return false;
        }
        pile.build(rings, heights);
        holes.forget();
        diary.forget();
        lit = false;
        return true;
    }

    public int lay(int ring, int height, int kind) {
        if (lit || !pile.holds(ring, height) || !Pile.isKind(kind)) {
            return NONE;
        }
        return pile.fill(pile.at(ring, height), kind);
    }

    public int layRow(int height, int kind, int n, int f, int step) {
        if (lit || !pile.holds(0, height) || kind < 0 || kind > 3 || n > MOST_ROW) {
            return NONE;
        }
        if (kind == 3) {
            return 0;
        }
        if (n < 0) {
            return NEGATIVE_ROW;
        }
        int laid = 0;
        int entry = f;
        while (laid < n && laid < pile.rings && Pile.isKind(narrowed(entry, kind))) {
            pile.fill(pile.at(laid, height), narrowed(entry, kind));
            laid++;
            entry += step;
        }
        return laid;
    }

    private static int narrowed(int entry, int rowKind) {
        if (rowKind == 0) {
            return (byte) entry;
        }
        return rowKind == 1 ? (short) entry : entry;
    }

    public int hole(int ring, int height) {
        if (lit || !pile.isOutsideAt(ring, height)) {
            return NONE;
        }
        return holes.bore(pile.at(ring, height));
    }

    public boolean light() {
        if (lit || pile.wood[0] == 0) {
            return false;
        }
        lit = true;
        pile.keepCover();
        holes.keepOpen();
        rules.actFromFirstHour();
        pile.setAlight();
        return true;
    }

    // ---- by hand, hours

    public boolean open(int hole, boolean is) {
        return holes.has(hole) && workByHand(Diary.AT_HOLE, hole, is ? 1 : 0);
    }

    public boolean cover(int ring, int height, int v) {
        if (v < 0 || v > Pile.MOST_COVER || !pile.isOutsideAt(ring, height)) {
            return false;
        }
        return workByHand(Diary.AT_COVER, pile.at(ring, height), v);
    }

    private boolean workByHand(int kind, int place, int value) {
        if (lit && !diary.keepAct(kind, place, value)) {
            return false;
        }
        handle(kind, place, value);
        return true;
    }

    private void handle(int kind, int place, int value) {
        if (kind == Diary.AT_HOLE) {
            holes.turn(place, value == 1);
        } else {
            pile.cover[place] = value;
        }
    }

    public boolean watch(int bits) {
        if (lit) {
            return false;
        }
        watched = bits & EVERY_HOUR;
        return true;
    }

    public int hour(int rain, int wind) {
        if (!lit || !isWeather(rain, wind) || diary.isFull()) {
            return NONE;
        }
        return workHour(rain, wind);
    }

    public int again(int hour, int rain, int wind) {
        if (!diary.has(hour) || !isWeather(rain, wind)) {
            return NONE;
        }
        diary.rain[hour] = rain;
        diary.wind[hour] = wind;
        workAgain();
        return pile.sum(pile.coal);
    }

    private static boolean isWeather(int rain, int wind) {
        return rain >= 0 && rain <= MOST_RAIN && wind >= 0 && wind <= MOST_WIND;
    }

    private void workAgain() {
        int hours = diary.hours;
        pile.backToLight();
        holes.backToLight();
        diary.hours = 0;
        int next = 0;
        for (int hour = 0; hour < hours; hour++) {
            next = handleAllOf(hour, next);
            workHour(diary.rain[hour], diary.wind[hour]);
        }
        handleAllOf(hours, next);
    }

    private int handleAllOf(int hour, int first) {
        int act = first;
        while (act < diary.acts && diary.actHour[act] == hour) {
            handle(diary.actKind[act], diary.actPlace[act], diary.actValue[act]);
            act++;
        }
        return act;
    }

    private int workHour(int rain, int wind) {
        pile.breathe(holes, STILL_AIR + wind);
        int smoke = pile.burn();
        pile.warm();
        pile.sink(diary.hours);
        pile.soak(rain);
        int bare = pile.countBare();
        look(smoke, bare);
        rules.see(Rules.RAIN, rain);
        rules.see(Rules.WIND, wind);
        int acted = actByRules();
        diary.note(rain, wind, smoke, acted, pile.sum(pile.fire), bare);
        return smoke;
    }

    private void look(int smoke, int bare) {
        int hour = diary.hours;
        boolean isWatched = (watched >> (hour % HOURS_A_DAY) & 1) == 1;
        rules.see(Rules.SMOKE, isWatched ? smoke : UNSEEN_SMOKE);
        rules.see(Rules.BARE, isWatched ? bare : UNSEEN_BARE);
        rules.see(Rules.COVER, isWatched ? pile.cover[pile.thinnest()] : UNSEEN_COVER);
        rules.see(Rules.HOUR, hour);
    }

    private int actByRules() {
        int acted = 0;
        for (int k = 0; k < rules.number; k++) {
            rules.see(Rules.OPEN, holes.countOpen());
            if (rules.holdsAt(k, diary.hours)) {
                actBy(k);
                acted |= 1 << k;
            }
        }
        return acted;
    }

    private void actBy(int k) {
        switch (rules.act[k]) {
            case '+':
                holes.turn(rules.target[k], true);
                break;
            case '-':
                holes.turn(rules.target[k], false);
                break;
            case '^':
                pile.mend();
                break;
            default:
                holes.shutAll();
                break;
        }
    }

    public int rake() {
        if (!lit) {
            return NONE;
        }
        int taken = pile.sum(pile.coal) / BASKET;
        baskets += taken;
        pile.build(pile.rings, pile.heights);
        holes.shutAll();
        diary.forget();
        lit = false;
        return taken;
    }

    // ---- looks

    public int count(int what) {
        switch (what) {
            case 0: return pile.rings;
            case 1: return pile.heights;
            case 2: return holes.number;
            case 3: return holes.countOpen();
            case 4: return rules.number;
            case 5: return diary.hours;
            case 6: return lit ? 1 : 0;
            case 7: return pile.sum(pile.fire);
            case 8: return diary.acts;
            case 9: return woods.number;
            case 10: return tape.length;
            case 11: return baskets;
            default: return NONE;
        }
    }

    public int cell(int ring, int height, int what) throws NoSuchElementException {
        if (!pile.holds(ring, height) || what < 0 || what > 8) {
            throw new NoSuchElementException();
        }
        int i = pile.at(ring, height);
        switch (what) {
            case 0: return pile.wood[i];
            case 1: return pile.coal[i];
            case 2: return pile.wet[i];
            case 3: return pile.heat[i];
            case 4: return pile.fire[i];
            case 5: return pile.isOutside[i] ? pile.cover[i] : NONE;
            case 6: return pile.air[i];
            case 7: return pile.full[i];
            default: return pile.kind[i];
        }
    }

    public int all(int what) {
        switch (what) {
            case 0: return pile.sum(pile.full);
            case 1: return pile.sum(pile.wood);
            case 2: return pile.sum(pile.coal);
            case 3: return pile.smoke;
            case 4: return pile.ash;
            default: return NONE;
        }
    }

    public int told(int hour, int what) {
        if (!diary.has(hour)) {
            return NONE;
        }
        switch (what) {
            case 0: return diary.rain[hour];
            case 1: return diary.wind[hour];
            case 2: return diary.smoke[hour];
            case 3: return diary.acted[hour];
            case 4: return diary.fires[hour];
            case 5: return diary.bare[hour];
            default: return NONE;
        }
    }

    public int breach(int ring, int height) {
        return pile.holds(ring, height) ? pile.breached[pile.at(ring, height)] : NONE;
    }

    // ---- rules

    public int sign(int v) {
        return tape.addFour(v);
    }

    public boolean end(int n) {
        if (n < 0 || n > tape.length) {
            return false;
        }
        tape.length = n;
        return true;
    }

    // The tape is empty behind every answer, so no answer leaves but by this one way.
    public int rule() {
        int answer = rules.isFull() ? TOO_MANY_RULES : acceptTape();
        tape.length = 0;
        return answer;
    }

    private int acceptTape() {
        int fault = reader.findFault();
        return fault == NONE ? rules.accept(lit ? diary.hours : 0) : -1 - fault;
    }

    public int repeal() {
        if (lit) {
            return NONE;
        }
        int were = rules.number;
        rules.number = 0;
        return were;
    }

    // ---- woods

    public int wood(int age, int least, int loads) {
        if (age < 0 || age > 200 || least < 1 || least > 100 || loads < 1 || loads > 1000) {
            return NONE;
        }
        return woods.plant(age, least, loads);
    }

    public boolean years(int n) {
        if (n < 0 || n > 200) {
            return false;
        }
        woods.grow(n);
        return true;
    }

    public int cut(int wood) {
        if (!woods.has(wood) || woods.yearsLeft(wood) > 0) {
            return NONE;
        }
        woods.age[wood] = 0;
        return woods.loads[wood];
    }

    public int plan(int want) {
        if (want < 1 || want > 20000) {
            return NONE;
        }
        return woods.choose(want);
    }

    public int stand(int wood, int what) throws NoSuchElementException {
        if (!woods.has(wood) || what < 0 || what > 3) {
            throw new NoSuchElementException();
        }
        switch (what) {
            case 0: return woods.age[wood];
            case 1: return woods.least[wood];
            case 2: return woods.loads[wood];
            default: return woods.yearsLeft(wood);
        }
    }

    /**
     * The clamp's cells, as rows that are as long as the greatest clamp needs, so that a new clamp makes no
     * new object. Cells stand ring by ring, heights rising: "least ring, then height" is the rows' own order.
     */
    private static final class Pile {
        static final int MOST = 8;
        static final int MOST_CELLS = MOST * MOST;
        static final int MOST_COVER = 9;
        private static final int FIRST_COVER = 5;
        private static final int MENDED = 3;
        private static final int FULL_SHARE = 100;
        private static final int WETTEST = 100;
        private static final int MOST_HEAT = 1000;
        private static final int LIGHT_HEAT = 500;
        private static final int CATCH_HEAT = 300;
        private static final int HEAT_LOST = 50;
        private static final int SAFE_AIR = 3;
        private static final int[] RATE = {4, 6, 4, 2};
        private static final int[] YIELD = {25, 22, 25, 25};
        private static final int[] DAMP = {20, 20, 60, 60};

        int rings;
        int heights;
        int smoke;
        int ash;
        private int cells;
        final int[] share = new int[MOST_CELLS];
        final boolean[] isOutside = new boolean[MOST_CELLS];
        final int[] wood = new int[MOST_CELLS];
        final int[] coal = new int[MOST_CELLS];
        final int[] wet = new int[MOST_CELLS];
        final int[] heat = new int[MOST_CELLS];
        final int[] fire = new int[MOST_CELLS];
        final int[] cover = new int[MOST_CELLS];
        final int[] air = new int[MOST_CELLS];
        final int[] full = new int[MOST_CELLS];
        final int[] kind = new int[MOST_CELLS];
        final int[] breached = new int[MOST_CELLS];
        private final int[] coverAtLight = new int[MOST_CELLS];
        private final int[] glow = new int[MOST_CELLS];

        Pile() {
            build(1, 1);
        }

        static boolean isKind(int kind) {
            return kind >= 0 && kind < DAMP.length;
        }

        boolean holds(int ring, int height) {
            return ring >= 0 && ring < rings && height >= 0 && height < heights;
        }

        int at(int ring, int height) {
            return ring * heights + height;
        }

        boolean isOutsideAt(int ring, int height) {
            return holds(ring, height) && isOutside[at(ring, height)];
        }

        void build(int newRings, int newHeights) {
            rings = newRings;
            heights = newHeights;
            cells = newRings * newHeights;
            Arrays.fill(full, 0);
            Arrays.fill(kind, 0);
            Arrays.fill(coverAtLight, FIRST_COVER);
            for (int ring = 0; ring < rings; ring++) {
                for (int height = 0; height < heights; height++) {
                    int i = at(ring, height);
                    share[i] = 2 * ring + 1;
                    isOutside[i] = ring == rings - 1 || height == heights - 1;
                }
            }
            backToLaid();
        }

        int fill(int i, int newKind) {
            kind[i] = newKind;
            full[i] = FULL_SHARE * share[i];
            wood[i] = full[i];
            wet[i] = dampOf(i);
            coal[i] = 0;
            heat[i] = 0;
            return wood[i];
        }

        private int dampOf(int i) {
            return full[i] > 0 ? DAMP[kind[i]] * share[i] : 0;
        }

        void keepCover() {
            System.arraycopy(cover, 0, coverAtLight, 0, MOST_CELLS);
        }

        void setAlight() {
            fire[0] = 1;
            heat[0] = LIGHT_HEAT;
        }

        void backToLight() {
            backToLaid();
            setAlight();
        }

        // Nothing but cover changes between laying and lighting without laying anew, so what was laid tells the rest.
        private void backToLaid() {
            smoke = 0;
            ash = 0;
            for (int i = 0; i < cells; i++) {
                wood[i] = full[i];
                coal[i] = 0;
                wet[i] = dampOf(i);
                heat[i] = 0;
                fire[i] = 0;
                cover[i] = coverAtLight[i];
                air[i] = 0;
                breached[i] = NONE;
            }
        }

        int sum(int[] row) {
            int sum = 0;
            for (int i = 0; i < cells; i++) {
                sum += row[i];
            }
            return sum;
        }

        void breathe(Holes holes, int strength) {
            for (int i = 0; i < cells; i++) {
                air[i] = isBare(i) ? strength : 0;
            }
            for (int hole = 0; hole < holes.number; hole++) {
                if (holes.isOpen[hole]) {
                    air[holes.place[hole]] = strength;
                }
            }
            spreadOutwards();
            spreadInwards();
        }

        // Air thins by one a step whichever way it goes, so a sweep out and up and one back reach every cell.
        private void spreadOutwards() {
            for (int ring = 0; ring < rings; ring++) {
                for (int height = 0; height < heights; height++) {
                    int i = at(ring, height);
                    int below = height > 0 ? air[i - 1] : 0;
                    int inner = ring > 0 ? air[i - heights] : 0;
                    air[i] = Math.max(air[i], Math.max(below, inner) - 1);
                }
            }
        }

        private void spreadInwards() {
            for (int ring = rings - 1; ring >= 0; ring--) {
                for (int height = heights - 1; height >= 0; height--) {
                    int i = at(ring, height);
                    int above = height < heights - 1 ? air[i + 1] : 0;
                    int outer = ring < rings - 1 ? air[i + heights] : 0;
                    air[i] = Math.max(air[i], Math.max(above, outer) - 1);
                }
            }
        }

        int burn() {
            int smokeNow = 0;
            for (int i = 0; i < cells; i++) {
                glow[i] = 0;
                if (fire[i] == 1) {
                    glow[i] = heat[i];
                    smokeNow += burnCell(i);
                }
            }
            smoke += smokeNow;
            return smokeNow;
        }

        private int burnCell(int i) {
            int smokeNow = 0;
            if (air[i] == 0) {
                heat[i] = Math.max(0, heat[i] - HEAT_LOST);
            } else if (wet[i] > 0) {
                wet[i] = Math.max(0, wet[i] - 10 * air[i]);
            } else {
                smokeNow = turnToCoal(i);
                turnToAsh(i);
            }
            if (heat[i] == 0 || wood[i] == 0 && coal[i] == 0) {
                fire[i] = 0;
            }
            return smokeNow;
        }

        private int turnToCoal(int i) {
            int gone = Math.min(wood[i], RATE[kind[i]] * air[i] * share[i]);
            int made = gone * YIELD[kind[i]] / 100;
            wood[i] -= gone;
            coal[i] += made;
            heat[i] = Math.min(MOST_HEAT, heat[i] + 40 * air[i]);
            return gone - made;
        }

        private void turnToAsh(int i) {
            if (air[i] > SAFE_AIR) {
                int lost = Math.min(coal[i], 5 * share[i] * (air[i] - SAFE_AIR));
                coal[i] -= lost;
                ash += lost;
            }
        }

        // A fire between two hours is always above heat 0, so glow 0 means that there was no fire.
        void warm() {
            for (int ring = 0; ring < rings; ring++) {
                for (int height = 0; height < heights; height++) {
                    int i = at(ring, height);
                    if (glow[i] == 0 && (wood[i] > 0 || coal[i] > 0)) {
                        heat[i] = Math.min(MOST_HEAT, heat[i] + glowAround(ring, height) / 20);
                        fire[i] = heat[i] >= CATCH_HEAT ? 1 : 0;
                    }
                }
            }
        }

        private int glowAround(int ring, int height) {
            int i = at(ring, height);
            int below = height > 0 ? glow[i - 1] : 0;
            int above = height < heights - 1 ? glow[i + 1] : 0;
            int inner = ring > 0 ? glow[i - heights] : 0;
            int outer = ring < rings - 1 ? glow[i + heights] : 0;
            return below + above + inner + outer;
        }

        void sink(int hour) {
            for (int i = 0; i < cells; i++) {
                if (isOutside[i] && cover[i] > 0 && 2 * (wood[i] + 2 * coal[i]) < full[i]) {
                    cover[i]--;
                    if (cover[i] == 0 && breached[i] == NONE) {
                        breached[i] = hour;
                    }
                }
            }
        }

        void soak(int rain) {
            for (int ring = 0; ring < rings; ring++) {
                int i = at(ring, heights - 1);
                wet[i] = Math.min(WETTEST * share[i], wet[i] + rain * share[i]);
            }
        }

        private boolean isBare(int i) {
            return isOutside[i] && cover[i] == 0;
        }

        int countBare() {
            int bare = 0;
            for (int i = 0; i < cells; i++) {
                if (isBare(i)) {
                    bare++;
                }
            }
            return bare;
        }

        int thinnest() {
            int best = cells - 1;
            for (int i = cells - 1; i >= 0; i--) {
                if (isOutside[i] && cover[i] <= cover[best]) {
                    best = i;
                }
            }
            return best;
        }

        void mend() {
            int i = thinnest();
            cover[i] = Math.min(MOST_COVER, cover[i] + MENDED);
        }
    }

    /** The holes of the clamp, and how they were when it was lit. */
    private static final class Holes {
        private static final int MOST = 12;

        int number;
        final int[] place = new int[MOST];
        final boolean[] isOpen = new boolean[MOST];
        private final boolean[] wasOpenAtLight = new boolean[MOST];

        void forget() {
            number = 0;
        }

        boolean has(int hole) {
            return hole >= 0 && hole < number;
        }

        int bore(int cell) {
            if (number >= MOST) {
                return NONE;
            }
            place[number] = cell;
            isOpen[number] = false;
            number++;
            return number - 1;
        }

        void turn(int hole, boolean is) {
            if (has(hole)) {
                isOpen[hole] = is;
            }
        }

        void shutAll() {
            for (int hole = 0; hole < number; hole++) {
                isOpen[hole] = false;
            }
        }

        int countOpen() {
            int open = 0;
            for (int hole = 0; hole < number; hole++) {
                if (isOpen[hole]) {
                    open++;
                }
            }
            return open;
        }

        void keepOpen() {
            for (int hole = 0; hole < number; hole++) {
                wasOpenAtLight[hole] = isOpen[hole];
            }
        }

        void backToLight() {
            for (int hole = 0; hole < number; hole++) {
                isOpen[hole] = wasOpenAtLight[hole];
            }
        }
    }

    /** What is kept of the hours since the clamp was lit, and what came by hand in them. */
    private static final class Diary {
        static final int AT_HOLE = 0;
        static final int AT_COVER = 1;
        private static final int MOST_HOURS = 300;
        private static final int MOST_ACTS = 100;

        int hours;
        final int[] rain = new int[MOST_HOURS];
        final int[] wind = new int[MOST_HOURS];
        final int[] smoke = new int[MOST_HOURS];
        final int[] acted = new int[MOST_HOURS];
        final int[] fires = new int[MOST_HOURS];
        final int[] bare = new int[MOST_HOURS];
        int acts;
        final int[] actHour = new int[MOST_ACTS];
        final int[] actKind = new int[MOST_ACTS];
        final int[] actPlace = new int[MOST_ACTS];
        final int[] actValue = new int[MOST_ACTS];

        void forget() {
            hours = 0;
            acts = 0;
        }

        boolean has(int hour) {
            return hour >= 0 && hour < hours;
        }

        boolean isFull() {
            return hours >= MOST_HOURS;
        }

        void note(int newRain, int newWind, int newSmoke, int newActed, int newFires, int newBare) {
            if (isFull()) {
                return;
            }
            rain[hours] = newRain;
            wind[hours] = newWind;
            smoke[hours] = newSmoke;
            acted[hours] = newActed;
            fires[hours] = newFires;
            bare[hours] = newBare;
            hours++;
        }

        boolean keepAct(int kind, int place, int value) {
            if (acts >= MOST_ACTS) {
                return false;
            }
            actHour[acts] = hours;
            actKind[acts] = kind;
            actPlace[acts] = place;
            actValue[acts] = value;
            acts++;
            return true;
        }
    }

    /** The signs that are told one after another until they are read as a rule. */
    private static final class Tape {
        private static final int MOST = 100;

        int length;
        private final int[] signs = new int[MOST];

        int addFour(int v) {
            if (length + 4 > MOST) {
                return NONE;
            }
            for (int shift = 24; shift >= 0; shift -= 8) {
                signs[length] = v >>> shift & 255;
                length++;
            }
            return length;
        }

        int signAt(int place) {
            return place >= 0 && place < length ? signs[place] : NONE;
        }
    }

    /** The rules, read once into rows of numbers, so that no hour has to read signs. */
    private static final class Rules {
        static final int SMOKE = 0;
        static final int BARE = 1;
        static final int COVER = 2;
        static final int HOUR = 3;
        static final int OPEN = 4;
        static final int RAIN = 5;
        static final int WIND = 6;
        // Their order is that of the numbers above.
        private static final char[] LETTERS = {'s', 'k', 'c', 't', 'o', 'r', 'w'};
        private static final int MOST = 8;
        // Forty signs hold no more asks, each of three signs and one behind it.
        static final int MOST_ASKS = 10;

        int number;
        final int[] act = new int[MOST];
        final int[] target = new int[MOST];
        final int[] asks = new int[MOST];
        private final int[] since = new int[MOST];
        private final int[] askLetter = new int[MOST * MOST_ASKS];
        private final int[] askRelation = new int[MOST * MOST_ASKS];
        private final int[] askNumber = new int[MOST * MOST_ASKS];
        private final int[] seen = new int[LETTERS.length];

        static int letterOf(int sign) {
            for (int letter = 0; letter < LETTERS.length; letter++) {
                if (LETTERS[letter] == sign) {
                    return letter;
                }
            }
            return NONE;
        }

        boolean isFull() {
            return number >= MOST;
        }

        int accept(int firstHour) {
            since[number] = firstHour;
            number++;
            return number - 1;
        }

        void actFromFirstHour() {
            Arrays.fill(since, 0);
        }

        void putAsk(int ask, int letter, int relation, int value) {
            int row = number * MOST_ASKS + ask;
            askLetter[row] = letter;
            askRelation[row] = relation;
            askNumber[row] = value;
            asks[number] = ask + 1;
        }

        void putAct(int sign, int hole) {
            act[number] = sign;
            target[number] = hole;
        }

        void see(int letter, int value) {
            seen[letter] = value;
        }

        boolean holdsAt(int k, int hour) {
            if (hour < since[k]) {
                return false;
            }
            for (int row = k * MOST_ASKS; row < k * MOST_ASKS + asks[k]; row++) {
                if (!isSo(seen[askLetter[row]], askRelation[row], askNumber[row])) {
                    return false;
                }
            }
            return true;
        }

        private static boolean isSo(int value, int relation, int limit) {
            if (relation == '<') {
                return value < limit;
            }
            return relation == '>' ? value > limit : value == limit;
        }
    }

    /** Reads the tape as one rule more, into the rows behind the last rule. */
    private static final class RuleReader {
        private static final int MOST_SIGNS = 40;
        private static final int MOST_DIGITS = 5;

        private final Tape tape;
        private final Rules rules;
        private int place;
        private int value;

        RuleReader(Tape itsTape, Rules itsRules) {
            tape = itsTape;
            rules = itsRules;
        }

        /** The place of the first sign that can't stand there; NONE: the tape is a rule. */
        int findFault() {
            place = 0;
            boolean isWhole = !rules.isFull() && readAsks() && take(':') && readAct() && place == tape.length;
            return isWhole ? NONE : place;
        }

        private boolean readAsks() {
            for (int ask = 0; ask < Rules.MOST_ASKS; ask++) {
                if (!readAsk(ask)) {
                    return false;
                }
                if (!take('&')) {
                    return true;
                }
            }
            return false;
        }

        private boolean readAsk(int ask) {
            int letter = Rules.letterOf(next());
            if (letter == NONE) {
                return false;
            }
            place++;
            int relation = next();
            if (!take('<') && !take('>') && !take('=') || !readNumber()) {
                return false;
            }
            rules.putAsk(ask, letter, relation, value);
            return true;
        }

        private boolean readAct() {
            int sign = next();
            value = NONE;
            boolean isAct = take('^') || take('~') || (take('+') || take('-')) && readNumber();
            if (isAct) {
                rules.putAct(sign, value);
            }
            return isAct;
        }

        private boolean readNumber() {
            int digits = 0;
            value = 0;
            while (digits < MOST_DIGITS && next() >= '0' && next() <= '9') {
                value = 10 * value + next() - '0';
                place++;
                digits++;
            }
            return digits > 0;
        }

        private boolean take(int sign) {
            if (next() != sign) {
                return false;
            }
            place++;
            return true;
        }

        private int next() {
            return place < MOST_SIGNS ? tape.signAt(place) : NONE;
        }
    }

    /** The woods that give loads for the clamps. */
    private static final class Woods {
        private static final int MOST = 12;
        private static final int OLDEST = 10000;
        private static final int TOO_FEW = -3;

        int number;
        final int[] age = new int[MOST];
        final int[] least = new int[MOST];
        final int[] loads = new int[MOST];

        boolean has(int wood) {
            return wood >= 0 && wood < number;
        }

        int plant(int newAge, int newLeast, int newLoads) {
            if (number >= MOST) {
                return NONE;
            }
            age[number] = newAge;
            least[number] = newLeast;
            loads[number] = newLoads;
            number++;
            return number - 1;
        }

        void grow(int n) {
            for (int wood = 0; wood < number; wood++) {
                age[wood] = Math.min(OLDEST, age[wood] + n);
            }
        }

        int yearsLeft(int wood) {
            return Math.max(0, least[wood] - age[wood]);
        }

        int choose(int want) {
            int ripe = ripeOnes();
            int fewest = fewestOf(ripe, want);
            return fewest == NONE ? TOO_FEW : leastOf(ripe, fewest, want);
        }

        private int ripeOnes() {
            int bits = 0;
            for (int wood = 0; wood < number; wood++) {
                if (yearsLeft(wood) == 0) {
                    bits |= 1 << wood;
                }
            }
            return bits;
        }

        // The greatest woods first: no other set of as many gives more.
        private int fewestOf(int ripe, int want) {
            int left = ripe;
            int sum = 0;
            for (int taken = 1; taken <= number && left != 0; taken++) {
                int wood = greatestOf(left);
                sum += loads[wood];
                left &= ~(1 << wood);
                if (sum >= want) {
                    return taken;
                }
            }
            return NONE;
        }

        private int greatestOf(int bits) {
            int best = 0;
            int most = 0;
            for (int wood = 0; wood < number; wood++) {
                if ((bits >> wood & 1) == 1 && loads[wood] > most) {
                    best = wood;
                    most = loads[wood];
                }
            }
            return best;
        }

        private int leastOf(int ripe, int size, int want) {
            int best = 0;
            int bestSum = 0;
            for (int bits = 1; bits < 1 << number; bits++) {
                if ((bits & ~ripe) == 0 && Integer.bitCount(bits) == size) {
                    int sum = loadsOf(bits);
                    if (sum >= want && (best == 0 || sum < bestSum)) {
                        best = bits;
                        bestSum = sum;
                    }
                }
            }
            return best;
        }

        private int loadsOf(int bits) {
            int sum = 0;
            for (int wood = 0; wood < number; wood++) {
                if ((bits >> wood & 1) == 1) {
                    sum += loads[wood];
                }
            }
            return sum;
        }
    }
}
