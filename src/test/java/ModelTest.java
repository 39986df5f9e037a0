import java.util.ArrayList;
import java.util.List;
import java.util.NoSuchElementException;
import java.util.Random;
import java.util.regex.Matcher;
import java.util.regex.Pattern;

/** Random runs of calls, held against a second yard that is written straight from the document's sentences. */
public final class ModelTest {
    private static final int RUNS = 1800;
    // A step makes fewer than 80 calls, and an object is promised for 512 alone.
    private static final int CALLS = 430;
    private static int wrong = 0;

    public static void main(String[] args) {
        for (int seed = 0; seed < RUNS && wrong < 20; seed++) {
            new Run(seed).go();
        }
        System.out.println(wrong == 0 ? "model: all answers agree" : "model: " + wrong + " answers differ");
        if (wrong != 0) {
            System.exit(1);
        }
    }

    private static final class Run {
        private final int seed;
        private final Random random;
        private final CharcoalYard yard = new CharcoalYard();
        private final Model model = new Model();
        private int calls = 0;

        Run(int seed) {
            this.seed = seed;
            this.random = new Random(seed);
        }

        void go() {
            buildOne();
            while (calls < CALLS) {
                int before = wrong;
                step();
                if (wrong != before) {
                    return;
                }
            }
        }

        private int below(int n) {
            return random.nextInt(n);
        }

        private int odd(int lowest, int highest) {
            if (below(40) == 0) {
                int[] far = {Integer.MIN_VALUE, Integer.MAX_VALUE, lowest - 1, highest + 1, -1};
                return far[below(far.length)];
            }
            return lowest + below(highest - lowest + 1);
        }

        private void due(String call, long got, long want) {
            calls++;
            if (got != want) {
                wrong++;
                System.out.println("seed " + seed + ", call " + calls + ": " + call + " answered " + got + ", due is " + want);
            }
        }

        private void due(String call, boolean got, boolean want) {
            due(call, got ? 1 : 0, want ? 1 : 0);
        }

        private void buildOne() {
            int rings = 1 + below(below(3) == 0 ? 8 : 4);
            int heights = 1 + below(below(3) == 0 ? 8 : 4);
            due("clamp", yard.clamp(rings, heights), model.clamp(rings, heights));
            layAll();
            int holes = below(6);
            for (int i = 0; i < holes; i++) {
                makeHole();
            }
            if (below(2) == 0) {
                int bits = random.nextInt();
                due("watch", yard.watch(bits), model.watch(bits));
            }
            for (int i = below(4); i > 0; i--) {
                tellRule();
            }
            due("light", yard.light(), model.light());
        }

        private void layAll() {
            for (int height = 0; height < model.heights; height++) {
                int type = below(3);
                int first = below(4);
                int step = below(3) - 1;
                due("layRow", yard.layRow(height, type, 8, first, step), model.layRow(height, type, 8, first, step));
                for (int ring = 0; ring < model.rings; ring++) {
                    if (below(8) != 0 && model.cells[ring][height].full == 0) {
                        int kind = below(4);
                        due("lay", yard.lay(ring, height, kind), model.lay(ring, height, kind));
                    }
                }
            }
        }

        private void makeHole() {
            int ring = below(2) == 0 ? model.rings - 1 : odd(0, model.rings - 1);
            int height = below(3) == 0 ? model.heights - 1 : odd(0, model.heights - 1);
            due("hole", yard.hole(ring, height), model.hole(ring, height));
        }

        private void step() {
            int dice = below(100);
            if (dice < 45) {
                stepHours();
            } else if (dice < 60) {
                stepByHand();
            } else if (dice < 75) {
                stepLooks();
            } else if (dice < 85) {
                tellRule();
            } else if (dice < 95) {
                stepWoods();
            } else {
                stepBuilt();
            }
        }

        private void stepHours() {
            int wind = odd(0, 3);
            int rain = below(3) == 0 ? odd(0, 9) : 0;
            for (int i = 1 + below(5); i > 0; i--) {
                due("hour", yard.hour(rain, wind), model.hour(rain, wind));
            }
            if (below(6) == 0) {
                int hour = odd(0, Math.max(0, model.hours.size()));
                due("again", yard.again(hour, rain, wind), model.again(hour, rain, wind));
            }
        }

        private void stepByHand() {
            if (below(2) == 0) {
                int hole = odd(0, 5);
                boolean is = below(3) > 0;
                due("open", yard.open(hole, is), model.open(hole, is));
            } else {
                int ring = odd(0, model.rings - 1);
                int height = odd(0, model.heights - 1);
                int v = odd(0, 9);
                due("cover", yard.cover(ring, height, v), model.cover(ring, height, v));
            }
        }

        private void stepLooks() {
            for (int i = 0; i < 6; i++) {
                int ring = odd(0, model.rings - 1);
                int height = odd(0, model.heights - 1);
                int what = odd(0, 8);
                due("cell " + what, cellOf(ring, height, what), model.cell(ring, height, what));
                due("breach", yard.breach(ring, height), model.breach(ring, height));
                what = odd(0, 11);
                due("count " + what, yard.count(what), model.count(what));
                what = odd(0, 4);
                due("all " + what, yard.all(what), model.all(what));
                int hour = odd(0, Math.max(0, model.hours.size()));
                what = odd(0, 5);
                due("told " + what, yard.told(hour, what), model.told(hour, what));
            }
        }

        private long cellOf(int ring, int height, int what) {
            try {
                return yard.cell(ring, height, what);
            } catch (NoSuchElementException e) {
                return Model.THROWN;
            }
        }

        private long standOf(int wood, int what) {
            try {
                return yard.stand(wood, what);
            } catch (NoSuchElementException e) {
                return Model.THROWN;
            }
        }

        private String ask() {
            String[] numbers = {"0", "1", "2", "3", "5", "12", "40", "99", "9999", "00004", "123456", "", "8"};
            int at = below(12) == 0 ? below(numbers.length) : below(10);
            return "" + "skctorw".charAt(below(7)) + "<>=".charAt(below(3)) + numbers[at];
        }

        private String text() {
            StringBuilder text = new StringBuilder(ask());
            for (int i = below(4) == 0 ? below(12) : below(2); i > 0; i--) {
                text.append('&').append(ask());
            }
            String[] acts = {"+0", "+1", "-0", "-1", "^", "~", "+3", "-2", "+00001", "-12345"};
            text.append(':').append(acts[below(acts.length)]);
            if (below(6) == 0) {
                char[] any = {'x', ' ', ':', '&', '0', 's', '^', 200, 0};
                text.setCharAt(below(text.length()), any[below(any.length)]);
            }
            if (below(8) == 0) {
                text.setLength(below(text.length() + 1));
            }
            return text.toString();
        }

        private void tellRule() {
            String text = text();
            for (int at = 0; at < text.length(); at += 4) {
                int v = 0;
                for (int i = at; i < at + 4; i++) {
                    v = v << 8 | (i < text.length() ? text.charAt(i) : below(256));
                }
                due("sign", yard.sign(v), model.sign(v));
            }
            int n = below(20) == 0 ? odd(0, 100) : text.length();
            due("end", yard.end(n), model.end(n));
            due("rule " + text, yard.rule(), model.rule());
            due("signs behind rule", yard.count(10), model.count(10));
        }

        private void stepWoods() {
            int age = odd(0, below(2) == 0 ? 200 : 20);
            int least = odd(1, below(2) == 0 ? 100 : 30);
            int loads = odd(1, below(2) == 0 ? 1000 : 9);
            due("wood", yard.wood(age, least, loads), model.wood(age, least, loads));
            int n = below(4) == 0 ? odd(0, 200) : below(10);
            due("years", yard.years(n), model.years(n));
            int want = below(3) == 0 ? odd(1, 20000) : 1 + below(3000);
            due("plan " + want, yard.plan(want), model.plan(want));
            int wood = odd(0, 11);
            due("cut", yard.cut(wood), model.cut(wood));
            wood = odd(0, 11);
            int what = odd(0, 3);
            due("stand", standOf(wood, what), model.stand(wood, what));
        }

        private void stepBuilt() {
            int dice = below(8);
            if (dice == 0) {
                int rings = odd(1, 8);
                due("clamp", yard.clamp(rings, 3), model.clamp(rings, 3));
            } else if (dice == 1) {
                due("rake", yard.rake(), model.rake());
                due("open", yard.open(0, true), model.open(0, true));
            } else if (dice == 2) {
                due("repeal", yard.repeal(), model.repeal());
            } else if (dice == 3) {
                int bits = random.nextInt();
                due("watch", yard.watch(bits), model.watch(bits));
            } else if (dice == 4) {
                makeHole();
            } else if (dice == 5) {
                int n = odd(-1, 20);
                int kind = odd(0, 3);
                int f = random.nextInt(70000);
                due("layRow", yard.layRow(0, kind, n, f, 256), model.layRow(0, kind, n, f, 256));
            }
            if (!model.lit && below(2) == 0) {
                layAll();
                makeHole();
                due("light", yard.light(), model.light());
            }
        }
    }

    private static final class Cell implements Cloneable {
        int ring;
        int height;
        int wood;
        int coal;
        int wet;
        int heat;
        boolean fire;
        int cover = 5;
        int air;
        int full;
        int kind;
        int breach = -1;
        boolean fireAhead;
        int heatAhead;

        Cell copy() {
            try {
                return (Cell) clone();
            } catch (CloneNotSupportedException e) {
                throw new IllegalStateException(e);
            }
        }

        int share() {
            return 2 * ring + 1;
        }
    }

    private static final class Hole {
        Cell at;
        boolean open;
        boolean openAtLight;
    }

    private static final class Rule {
        String text;
        int from;
    }

    private record Act(int hour, Hole hole, int ring, int height, int value) { }

    private static final class Model {
        static final long THROWN = Long.MIN_VALUE;
        private static final String ASK = "[skctorw][<>=][0-9]{1,5}";
        private static final Pattern TEXT = Pattern.compile(ASK + "(&" + ASK + ")*:([+-][0-9]{1,5}|\\^|~)");

        int rings;
        int heights;
        Cell[][] cells;
        Cell[][] cellsAtLight;
        final List<Hole> holes = new ArrayList<>();
        final List<Rule> rules = new ArrayList<>();
        final List<int[]> hours = new ArrayList<>();
        final List<Act> acts = new ArrayList<>();
        final List<int[]> woods = new ArrayList<>();
        String tape = "";
        boolean lit;
        int watched = -1;
        int baskets;
        int smoke;
        int ash;

        Model() {
            clamp(1, 1);
        }

        boolean clamp(int r, int h) {
            if (r < 1 || r > 8 || h < 1 || h > 8) {
                return false;
            }
            rings = r;
            heights = h;
            empty();
            holes.clear();
            return true;
        }

        private void empty() {
            cells = new Cell[rings][heights];
            for (int r = 0; r < rings; r++) {
                for (int h = 0; h < heights; h++) {
                    cells[r][h] = new Cell();
                    cells[r][h].ring = r;
                    cells[r][h].height = h;
                }
            }
            hours.clear();
            acts.clear();
            lit = false;
            smoke = 0;
            ash = 0;
        }

        private boolean is(int r, int h) {
            return r >= 0 && r < rings && h >= 0 && h < heights;
        }

        private boolean outside(int r, int h) {
            return is(r, h) && (r == rings - 1 || h == heights - 1);
        }

        private List<Cell> every() {
            List<Cell> list = new ArrayList<>();
            for (Cell[] row : cells) {
                list.addAll(List.of(row));
            }
            return list;
        }

        private List<Cell> everyOutside() {
            List<Cell> list = every();
            list.removeIf(c -> !outside(c.ring, c.height));
            return list;
        }

        int lay(int r, int h, int kind) {
            if (!is(r, h) || kind < 0 || kind > 3 || lit) {
                return -1;
            }
            Cell c = cells[r][h];
            c.kind = kind;
            c.full = 100 * c.share();
            c.wood = c.full;
            c.coal = 0;
            c.heat = 0;
            c.wet = (kind < 2 ? 20 : 60) * c.share();
            return c.wood;
        }

        int layRow(int h, int kind, int n, int f, int step) {
            if (!is(0, h) || kind < 0 || kind > 3 || n > 20 || lit) {
                return -1;
            }
            if (kind == 3) {
                return 0;
            }
            if (n < 0) {
                return -2;
            }
            int[] row = new int[n];
            for (int i = 0; i < n; i++) {
                int entry = f + i * step;
                row[i] = kind == 0 ? (byte) entry : kind == 1 ? (short) entry : entry;
            }
            int i = 0;
            while (i < n && i < rings && row[i] >= 0 && row[i] < 4) {
                lay(i, h, row[i]);
                i++;
            }
            return i;
        }

        int hole(int r, int h) {
            if (!outside(r, h) || holes.size() == 12 || lit) {
                return -1;
            }
            Hole hole = new Hole();
            hole.at = cells[r][h];
            holes.add(hole);
            return holes.size() - 1;
        }

        boolean light() {
            if (lit || cells[0][0].wood == 0) {
                return false;
            }
            lit = true;
            cells[0][0].fire = true;
            cells[0][0].heat = 500;
            cellsAtLight = copyOf(cells);
            holes.forEach(hole -> hole.openAtLight = hole.open);
            rules.forEach(rule -> rule.from = 0);
            return true;
        }

        private Cell[][] copyOf(Cell[][] from) {
            Cell[][] to = new Cell[rings][heights];
            for (int r = 0; r < rings; r++) {
                for (int h = 0; h < heights; h++) {
                    to[r][h] = from[r][h].copy();
                }
            }
            return to;
        }

        boolean open(int hole, boolean is) {
            if (hole < 0 || hole >= holes.size() || acts.size() == 100) {
                return false;
            }
            byHand(new Act(hours.size(), holes.get(hole), 0, 0, is ? 1 : 0));
            return true;
        }

        boolean cover(int r, int h, int v) {
            if (!outside(r, h) || v < 0 || v > 9 || acts.size() == 100) {
                return false;
            }
            byHand(new Act(hours.size(), null, r, h, v));
            return true;
        }

        private void byHand(Act act) {
            if (lit) {
                acts.add(act);
            }
            handle(act);
        }

        private void handle(Act act) {
            if (act.hole != null) {
                act.hole.open = act.value == 1;
            } else {
                cells[act.ring][act.height].cover = act.value;
            }
        }

        boolean watch(int bits) {
            if (!lit) {
                watched = bits;
            }
            return !lit;
        }

        int hour(int rain, int wind) {
            if (rain < 0 || rain > 9 || wind < 0 || wind > 3 || !lit || hours.size() == 300) {
                return -1;
            }
            return work(rain, wind);
        }

        private int airOf(Cell c, int wind) {
            int air = 0;
            for (Cell from : every()) {
                boolean open = outside(from.ring, from.height) && from.cover == 0;
                for (Hole hole : holes) {
                    open |= hole.open && hole.at.ring == from.ring && hole.at.height == from.height;
                }
                if (open) {
                    air = Math.max(air, 4 + wind - Math.abs(c.ring - from.ring) - Math.abs(c.height - from.height));
                }
            }
            return air;
        }

        private int work(int rain, int wind) {
            int now = 0;
            for (Cell c : every()) {
                c.air = airOf(c, wind);
                c.fireAhead = c.fire;
                c.heatAhead = c.heat;
            }
            for (Cell c : every()) {
                if (c.fire) {
                    now += burn(c);
                }
            }
            smoke += now;
            for (Cell c : every()) {
                if (!c.fireAhead && (c.wood > 0 || c.coal > 0)) {
                    int sum = 0;
                    for (Cell n : every()) {
                        if (Math.abs(n.ring - c.ring) + Math.abs(n.height - c.height) == 1 && n.fireAhead) {
                            sum += n.heatAhead;
                        }
                    }
                    c.heat = Math.min(1000, c.heat + sum / 20);
                    c.fire = c.heat >= 300;
                }
            }
            for (Cell c : everyOutside()) {
                if (c.full > 0 && c.wood + 2 * c.coal < c.full / 2) {
                    boolean had = c.cover > 0;
                    c.cover = Math.max(0, c.cover - 1);
                    if (had && c.cover == 0 && c.breach == -1) {
                        c.breach = hours.size();
                    }
                }
            }
            for (int r = 0; r < rings; r++) {
                Cell c = cells[r][heights - 1];
                c.wet = Math.min(100 * c.share(), c.wet + rain * c.share());
            }
            int k = (int) everyOutside().stream().filter(c -> c.cover == 0).count();
            int fires = (int) every().stream().filter(c -> c.fire).count();
            hours.add(new int[] {rain, wind, now, ruled(now, k, rain, wind), fires, k});
            return now;
        }

        private int burn(Cell c) {
            int gone = 0;
            int made = 0;
            if (c.air == 0) {
                c.heat = Math.max(0, c.heat - 50);
            } else if (c.wet > 0) {
                c.wet = Math.max(0, c.wet - 10 * c.air);
            } else {
                int rate = c.kind == 1 ? 6 : c.kind == 3 ? 2 : 4;
                gone = Math.min(c.wood, rate * c.air * c.share());
                made = gone * (c.kind == 1 ? 22 : 25) / 100;
                c.wood -= gone;
                c.coal += made;
                c.heat = Math.min(1000, c.heat + 40 * c.air);
                if (c.air > 3) {
                    int lost = Math.min(c.coal, 5 * c.share() * (c.air - 3));
                    c.coal -= lost;
                    ash += lost;
                }
            }
            if (c.heat == 0 || c.wood + c.coal == 0) {
                c.fire = false;
            }
            return gone - made;
        }

        private int ruled(int s, int k, int rain, int wind) {
            int hour = hours.size();
            boolean seen = (watched >>> (hour % 24) & 1) != 0;
            int c = everyOutside().stream().mapToInt(cell -> cell.cover).min().getAsInt();
            int acted = 0;
            for (int i = 0; i < rules.size(); i++) {
                Rule rule = rules.get(i);
                boolean holds = rule.from <= hour;
                String[] halves = rule.text.split(":");
                for (String ask : halves[0].split("&")) {
                    int value = switch (ask.charAt(0)) {
                        case 's' -> seen ? s : 9999;
                        case 'k' -> seen ? k : 99;
                        case 'c' -> seen ? c : 0;
                        case 't' -> hour;
                        case 'o' -> (int) holes.stream().filter(hole -> hole.open).count();
                        case 'r' -> rain;
                        default -> wind;
                    };
                    int number = Integer.parseInt(ask.substring(2));
                    char is = ask.charAt(1);
                    holds &= is == '<' ? value < number : is == '>' ? value > number : value == number;
                }
                if (holds) {
                    acted |= 1 << i;
                    act(halves[1]);
                }
            }
            return acted;
        }

        private void act(String act) {
            if (act.equals("~")) {
                holes.forEach(hole -> hole.open = false);
            } else if (act.equals("^")) {
                Cell least = null;
                for (Cell c : everyOutside()) {
                    if (least == null || c.cover < least.cover) {
                        least = c;
                    }
                }
                least.cover = Math.min(9, least.cover + 3);
            } else {
                int number = Integer.parseInt(act.substring(1));
                if (number < holes.size()) {
                    holes.get(number).open = act.charAt(0) == '+';
                }
            }
        }

        int again(int hour, int rain, int wind) {
            if (hour < 0 || hour >= hours.size() || rain < 0 || rain > 9 || wind < 0 || wind > 3) {
                return -1;
            }
            List<int[]> were = new ArrayList<>(hours);
            were.set(hour, new int[] {rain, wind});
            cells = copyOf(cellsAtLight);
            holes.forEach(hole -> hole.open = hole.openAtLight);
            smoke = 0;
            ash = 0;
            hours.clear();
            for (int h = 0; h <= were.size(); h++) {
                for (Act act : acts) {
                    if (act.hour == h) {
                        handle(act);
                    }
                }
                if (h < were.size()) {
                    work(were.get(h)[0], were.get(h)[1]);
                }
            }
            return all(2);
        }

        int rake() {
            if (!lit) {
                return -1;
            }
            int taken = all(2) / 25;
            baskets += taken;
            holes.forEach(hole -> hole.open = false);
            empty();
            return taken;
        }

        int count(int what) {
            return switch (what) {
                case 0 -> rings;
                case 1 -> heights;
                case 2 -> holes.size();
                case 3 -> (int) holes.stream().filter(hole -> hole.open).count();
                case 4 -> rules.size();
                case 5 -> hours.size();
                case 6 -> lit ? 1 : 0;
                case 7 -> (int) every().stream().filter(c -> c.fire).count();
                case 8 -> acts.size();
                case 9 -> woods.size();
                case 10 -> tape.length();
                case 11 -> baskets;
                default -> -1;
            };
        }

        long cell(int r, int h, int what) {
            if (!is(r, h)) {
                return THROWN;
            }
            Cell c = cells[r][h];
            return switch (what) {
                case 0 -> c.wood;
                case 1 -> c.coal;
                case 2 -> c.wet;
                case 3 -> c.heat;
                case 4 -> c.fire ? 1 : 0;
                case 5 -> outside(r, h) ? c.cover : -1;
                case 6 -> c.air;
                case 7 -> c.full;
                case 8 -> c.kind;
                default -> THROWN;
            };
        }

        int all(int what) {
            return switch (what) {
                case 0 -> every().stream().mapToInt(c -> c.full).sum();
                case 1 -> every().stream().mapToInt(c -> c.wood).sum();
                case 2 -> every().stream().mapToInt(c -> c.coal).sum();
                case 3 -> smoke;
                case 4 -> ash;
                default -> -1;
            };
        }

        int told(int hour, int what) {
            return hour < 0 || hour >= hours.size() || what < 0 || what > 5 ? -1 : hours.get(hour)[what];
        }

        int breach(int r, int h) {
            return is(r, h) ? cells[r][h].breach : -1;
        }

        int sign(int v) {
            if (tape.length() + 4 > 100) {
                return -1;
            }
            for (int i = 3; i >= 0; i--) {
                tape += (char) (v >> 8 * i & 255);
            }
            return tape.length();
        }

        boolean end(int n) {
            if (n < 0 || n > tape.length()) {
                return false;
            }
            tape = tape.substring(0, n);
            return true;
        }

        int rule() {
            String text = tape;
            tape = "";
            if (rules.size() == 8) {
                return -100;
            }
            for (int p = 0; p < Math.min(40, text.length()); p++) {
                Matcher start = TEXT.matcher(text.substring(0, p + 1));
                if (!start.matches() && !start.hitEnd()) {
                    return -1 - p;
                }
            }
            if (text.length() > 40) {
                return -41;
            }
            if (!TEXT.matcher(text).matches()) {
                return -1 - text.length();
            }
            Rule rule = new Rule();
            rule.text = text;
            rule.from = lit ? hours.size() : 0;
            rules.add(rule);
            return rules.size() - 1;
        }

        int repeal() {
            if (lit) {
                return -1;
            }
            int were = rules.size();
            rules.clear();
            return were;
        }

        int wood(int age, int least, int loads) {
            if (age < 0 || age > 200 || least < 1 || least > 100 || loads < 1 || loads > 1000 || woods.size() == 12) {
                return -1;
            }
            woods.add(new int[] {age, least, loads});
            return woods.size() - 1;
        }

        boolean years(int n) {
            if (n < 0 || n > 200) {
                return false;
            }
            woods.forEach(wood -> wood[0] = Math.min(10000, wood[0] + n));
            return true;
        }

        int cut(int wood) {
            if (wood < 0 || wood >= woods.size() || woods.get(wood)[0] < woods.get(wood)[1]) {
                return -1;
            }
            woods.get(wood)[0] = 0;
            return woods.get(wood)[2];
        }

        int plan(int want) {
            if (want < 1 || want > 20000) {
                return -1;
            }
            int best = -3;
            long bestRank = Long.MAX_VALUE;
            for (int bits = 0; bits < 1 << woods.size(); bits++) {
                int sum = 0;
                boolean may = true;
                for (int w = 0; w < woods.size(); w++) {
                    if ((bits >> w & 1) == 1) {
                        sum += woods.get(w)[2];
                        may &= woods.get(w)[0] >= woods.get(w)[1];
                    }
                }
                long rank = Integer.bitCount(bits) * 1000000L + sum;
                if (may && sum >= want && rank < bestRank) {
                    best = bits;
                    bestRank = rank;
                }
            }
            return best;
        }

        long stand(int wood, int what) {
            if (wood < 0 || wood >= woods.size() || what < 0 || what > 3) {
                return THROWN;
            }
            int[] w = woods.get(wood);
            return what < 3 ? w[what] : Math.max(0, w[1] - w[0]);
        }
    }
}
