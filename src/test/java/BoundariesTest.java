/** Each sentence of a promise that names a boundary has a test of its own here; those of the terms have it in TermsTest. */
public final class BoundariesTest extends YardTest {
    public static void main(String[] args) {
        newObject();
        clamp();
        lay();
        layRow();
        hole();
        light();
        open();
        cover();
        watch();
        hour();
        again();
        rake();
        count();
        cellOf();
        all();
        told();
        breach();
        sign();
        end();
        rule();
        repeal();
        wood();
        years();
        cut();
        plan();
        standOf();
        close();
    }

    /** Ring 0 of two has 3 coal more in each hour behind the first, and 25 behind ten of them; ring 1 has none yet. */
    private static CharcoalYard withCoal(int hours) {
        CharcoalYard y = litRow(2, 0);
        work(y, hours);
        return y;
    }

    // ---- promise 1

    private static void newObject() {
        sentence("promise 1", "A CLAMP of one CELL");
        CharcoalYard y = new CharcoalYard();
        dueCounts("new", y, 1, 1);
        dueCell("the one cell", y, 0, 0, 0, 0, 0, 0, 0, 5, 0, 0, 0);
        due("cell(1, 0, 0)", cell(y, 1, 0, 0), THROWN);
        due("cell(0, 1, 0)", cell(y, 0, 1, 0), THROWN);
        due("it is outside: hole(0, 0)", y.hole(0, 0), 0);
        nothingInIt();
        notLitAtFirst();
    }

    private static void nothingInIt() {
        sentence("promise 1", "no HOLES, RULES, WOODS");
        CharcoalYard y = new CharcoalYard();
        dueCounts("new", y, 1, 1, 0, 0, 0, 0, 0, 0, 0, 0, 0, 0);
        due("open(0, true)", y.open(0, true), false);
        due("repeal()", y.repeal(), 0);
        due("cut(0)", y.cut(0), -1);
        due("stand(0, 0)", stand(y, 0, 0), THROWN);
        due("plan(1)", y.plan(1), -3);
        due("rule()", y.rule(), -1);
        for (int what = 0; what < 5; what++) {
            due("all(" + what + ")", y.all(what), 0);
        }
    }

    private static void notLitAtFirst() {
        sentence("promise 1", "not LIT.");
        CharcoalYard y = new CharcoalYard();
        due("hour(0, 0)", y.hour(0, 0), -1);
        due("again(0, 0, 0)", y.again(0, 0, 0), -1);
        due("rake()", y.rake(), -1);
        due("told(0, 0)", y.told(0, 0), -1);
        due("breach(0, 0)", y.breach(0, 0), -1);
        due("watch(0)", y.watch(0), true);
        due("light() of nothing", y.light(), false);
        due("count(6)", y.count(6), 0);
    }

    // ---- promise 2

    private static void clamp() {
        sentence("promise 2", "A CLAMP anew");
        CharcoalYard y = new CharcoalYard();
        for (int n = 1; n <= 8; n++) {
            due("clamp(" + n + ", " + (9 - n) + ")", y.clamp(n, 9 - n), true);
            dueCounts("clamp", y, n, 9 - n);
        }
        due("clamp(8, 8)", y.clamp(8, 8), true);
        due("cell(7, 7, 5)", cell(y, 7, 7, 5), 5);
        due("cell(8, 7, 5)", cell(y, 8, 7, 5), THROWN);
        due("clamp(1, 1)", y.clamp(1, 1), true);
        due("cell(1, 0, 5)", cell(y, 1, 0, 5), THROWN);
        otherNumbers();
        otherNumbersChangeNothing();
        clampedAnew();
        whatStaysBehindClamp();
    }

    private static void otherNumbers() {
        sentence("promise 2", "false for other numbers");
        CharcoalYard y = new CharcoalYard();
        int[] others = {0, 9, -1, 10, MIN, MAX};
        for (int n : others) {
            due("clamp(" + n + ", 1)", y.clamp(n, 1), false);
            due("clamp(8, " + n + ")", y.clamp(8, n), false);
            due("clamp(" + n + ", " + n + ")", y.clamp(n, n), false);
        }
        dueCounts("as it was", y, 1, 1);
    }

    private static void otherNumbersChangeNothing() {
        sentence("promise 2", "true; false for other numbers");
        CharcoalYard y = withCoal(3);
        y.cover(1, 0, 2);
        y.clamp(0, 1);
        y.clamp(1, 9);
        dueCounts("refused", y, 2, 1, 1, 1, 0, 3, 1, 1, 1);
        dueCell("refused", y, 0, 0, 76, 6, 0, 740, 1, 5, 3, 100, 0);
        due("cover", cell(y, 1, 0, 5), 2);
        due("told(2, 2)", y.told(2, 2), 9);
        due("the next hour", y.hour(0, 0), 9);
    }

    private static void clampedAnew() {
        sentence("promise 2", "empty, not LIT, without HOLES, hours, what came BY HAND; COVER 5");
        CharcoalYard y = litOne(3);
        work(y, 12);
        y.cover(0, 0, 1);
        y.cover(0, 0, 0);
        due("clamp(1, 1)", y.clamp(1, 1), true);
        dueCounts("behind clamp", y, 1, 1, 0, 0, 0, 0, 0, 0, 0);
        dueCell("behind clamp", y, 0, 0, 0, 0, 0, 0, 0, 5, 0, 0, 0);
        for (int what = 0; what < 5; what++) {
            due("all(" + what + ")", y.all(what), 0);
        }
        due("told(0, 0)", y.told(0, 0), -1);
        due("again(0, 0, 0)", y.again(0, 0, 0), -1);
        due("breach(0, 0)", y.breach(0, 0), -1);
        due("light()", y.light(), false);
        due("hole(0, 0)", y.hole(0, 0), 0);
        due("it is shut", y.count(3), 0);
    }

    private static void whatStaysBehindClamp() {
        sentence("promise 2", "(RULES, what is WATCHED, WOODS, baskets stay)");
        CharcoalYard y = laid(2, 1, 0);
        y.watch(2);
        tell(y, "k=99:+0");
        y.wood(7, 20, 300);
        y.hole(1, 0);
        y.open(0, true);
        y.light();
        work(y, 10);
        due("a basket", y.rake(), 1);
        write(y, "t>1");
        due("clamp(2, 2)", y.clamp(2, 2), true);
        dueCounts("behind clamp", y, 2, 2, 0, 0, 1, 0, 0, 0, 0, 1, 3, 1);
        due("the wood's age", stand(y, 0, 0), 7);
        due("the wood's loads", stand(y, 0, 2), 300);
        y.lay(0, 0, 0);
        y.light();
        work(y, 3);
        int[] acted = {1, 0, 1};
        for (int hour = 0; hour < 3; hour++) {
            due("watched in hour 1 alone: told(" + hour + ", 3)", y.told(hour, 3), acted[hour]);
        }
    }

    // ---- promise 3

    private static void lay() {
        sentence("promise 3", "WOOD and FULL 100 * SHARE, WET DAMP * SHARE, COAL, HEAT 0: WOOD");
        CharcoalYard y = new CharcoalYard();
        y.clamp(8, 8);
        due("the middle", y.lay(0, 0, 0), 100);
        dueCell("the middle", y, 0, 0, 100, 0, 20, 0, 0, -1, 0, 100, 0);
        due("the last", y.lay(7, 7, 3), 1500);
        dueCell("the last", y, 7, 7, 1500, 0, 900, 0, 0, 5, 0, 1500, 3);
        due("laid once more, of another kind", y.lay(7, 7, 1), 1500);
        dueCell("laid once more", y, 7, 7, 1500, 0, 300, 0, 0, 5, 0, 1500, 1);
        due("full in all", y.all(0), 1600);
        layNoneSuch();
        layWhileLit();
    }

    private static void layNoneSuch() {
        sentence("promise 3", "NONE: no such CELL, KIND");
        CharcoalYard y = new CharcoalYard();
        y.clamp(2, 3);
        int[][] none = {{2, 0, 0}, {-1, 0, 0}, {0, 3, 0}, {0, -1, 0}, {MIN, 0, 0}, {0, MAX, 0}, {0, 0, 4}, {0, 0, -1},
            {0, 0, MIN}, {1, 2, MAX}};
        for (int[] n : none) {
            due("lay(" + n[0] + ", " + n[1] + ", " + n[2] + ")", y.lay(n[0], n[1], n[2]), -1);
        }
        due("nothing is laid", y.all(0), 0);
    }

    private static void layWhileLit() {
        sentence("promise 3", "or it is LIT.");
        CharcoalYard y = litRow(2, 0);
        work(y, 3);
        due("lay(0, 0, 2)", y.lay(0, 0, 2), -1);
        due("lay(1, 0, 2)", y.lay(1, 0, 2), -1);
        dueCell("as it was", y, 0, 0, 76, 6, 0, 740, 1, 5, 3, 100, 0);
        due("kind of ring 1", cell(y, 1, 0, 8), 0);
        y.rake();
        due("behind rake()", y.lay(0, 0, 2), 100);
    }

    // ---- promise 4

    private static void layRow() {
        rowFromRingNought();
        rowsEnd();
        rowsLastRing();
        rowsEntryThatIsNoKind();
        rowsBits();
        rowsWrap();
        rowBelowNought();
        rowNoneSuch();
        rowAskedAhead();
        rowMissing();
    }

    private static void rowFromRingNought() {
        sentence("promise 4", "CELLS of a HEIGHT are laid, from RING 0 on, with the KINDS of a row");
        for (int type = 0; type < 3; type++) {
            CharcoalYard y = new CharcoalYard();
            y.clamp(5, 3);
            due("3, 2, 1, 0", y.layRow(1, type, 4, 3, -1), 4);
            for (int ring = 0; ring < 4; ring++) {
                due("kind of ring " + ring, cell(y, ring, 1, 8), 3 - ring);
                due("full of ring " + ring, cell(y, ring, 1, 7), 100 * (2 * ring + 1));
                due("the one below", cell(y, ring, 0, 7), 0);
                due("the one above", cell(y, ring, 2, 7), 0);
            }
            due("ring 4", cell(y, 4, 1, 7), 0);
        }
    }

    private static void rowsEnd() {
        sentence("promise 4", "up to the row's end");
        CharcoalYard y = new CharcoalYard();
        y.clamp(8, 1);
        due("n 0", y.layRow(0, 2, 0, 1, 0), 0);
        due("nothing is laid", y.all(0), 0);
        due("n 1", y.layRow(0, 2, 1, 1, 0), 1);
        due("ring 0 alone", y.all(0), 100);
        due("n 7", y.layRow(0, 2, 7, 1, 0), 7);
        due("but for ring 7", y.all(0), 4900);
    }

    private static void rowsLastRing() {
        sentence("promise 4", "up to the row's end, the last RING");
        CharcoalYard y = new CharcoalYard();
        y.clamp(8, 8);
        due("n 8 of 8 rings", y.layRow(7, 0, 8, 0, 0), 8);
        due("n 9 of 8 rings", y.layRow(7, 1, 9, 0, 0), 8);
        due("n 20 of 8 rings", y.layRow(7, 2, 20, 0, 0), 8);
        due("all of one height", y.all(0), 6400);
        due("n 20 of one ring", new CharcoalYard().layRow(0, 2, 20, 3, 0), 1);
    }

    private static void rowsEntryThatIsNoKind() {
        sentence("promise 4", "or an entry that is no KIND: how many");
        CharcoalYard y = new CharcoalYard();
        y.clamp(4, 1);
        due("the first is 4", y.layRow(0, 2, 4, 4, -1), 0);
        due("the first is -1", y.layRow(0, 2, 4, -1, 1), 0);
        due("nothing is laid, though others are kinds", y.all(0), 0);
        due("2, 3, 4", y.layRow(0, 2, 4, 2, 1), 2);
        due("1, 0, -1", y.layRow(0, 2, 4, 1, -1), 2);
        due("two are laid", y.all(0), 400);
        due("the entry is no kind where the row ends", y.layRow(0, 2, 3, 1, 1), 3);
    }

    private static void rowsBits() {
        sentence("promise 4", "of each the lowest 8, 16, 32 bits with a sign");
        CharcoalYard y = new CharcoalYard();
        y.clamp(4, 1);
        int[] bits = {8, 16};
        for (int type = 0; type < 2; type++) {
            int more = 1 << bits[type];
            due("3 and one bit more", y.layRow(0, type, 1, more + 3, 0), 1);
            due("its kind", cell(y, 0, 0, 8), 3);
            due("0, 1, 2, 3 behind higher bits", y.layRow(0, type, 4, 0, more + 1), 4);
            due("the greatest below 0", y.layRow(0, type, 1, more - 1, 0), 0);
            due("the highest of them is the sign", y.layRow(0, type, 1, more >> 1, 0), 0);
            due("one bit less", y.layRow(0, type, 1, (more >> 1) + 1, 0), 0);
            due("from below 0", y.layRow(0, type, 2, 2 - more, 1), 2);
        }
        due("shorts have more bits than bytes", y.layRow(0, 1, 1, 256, 0), 0);
        due("ints have more bits than shorts", y.layRow(0, 2, 1, 65536, 0), 0);
        due("all 32 of ints", y.layRow(0, 2, 1, MIN, 0), 0);
        due("all 32 of ints", y.layRow(0, 2, 2, 1, MIN), 1);
    }

    private static void rowsWrap() {
        sentence("promise 4", "n entries f, f + step, .. (as ints go");
        CharcoalYard y = new CharcoalYard();
        y.clamp(8, 1);
        due("bytes past the greatest int", y.layRow(0, 0, 8, MAX - 255, 256), 8);
        due("shorts past the greatest int", y.layRow(0, 1, 8, MAX - 65535, 65536), 8);
        due("shorts past the least int", y.layRow(0, 1, 8, MIN + 3, -65536), 8);
        due("their kind", cell(y, 7, 0, 8), 3);
        due("bytes by the least int", y.layRow(0, 0, 8, 2, MIN), 8);
        due("ints by the least int", y.layRow(0, 2, 8, 2, MIN), 1);
        due("ints from the greatest on", y.layRow(0, 2, 8, MAX, 1), 0);
    }

    private static void rowBelowNought() {
        sentence("promise 4", "-2: n below 0");
        CharcoalYard y = new CharcoalYard();
        y.clamp(2, 2);
        for (int type = 0; type < 3; type++) {
            due("n -1", y.layRow(1, type, -1, 0, 0), -2);
            due("n -20", y.layRow(1, type, -20, 0, 0), -2);
            due("the least n", y.layRow(0, type, MIN, 0, 0), -2);
        }
        due("nothing is laid", y.all(0), 0);
    }

    private static void rowNoneSuch() {
        sentence("promise 4", "NONE: no such HEIGHT, kind, n above 20");
        CharcoalYard y = new CharcoalYard();
        y.clamp(2, 3);
        int[][] none = {{3, 2, 1}, {-1, 2, 1}, {MIN, 2, 1}, {MAX, 2, 1}, {0, -1, 1}, {0, 4, 1}, {0, MIN, 1}, {0, MAX, 1},
            {0, 2, 21}, {0, 0, 21}, {0, 1, MAX}};
        for (int[] n : none) {
            due("layRow(" + n[0] + ", " + n[1] + ", " + n[2] + ", 0, 0)", y.layRow(n[0], n[1], n[2], 0, 0), -1);
        }
        due("nothing is laid", y.all(0), 0);
        due("n 20", y.layRow(2, 2, 20, 0, 0), 2);
    }

    private static void rowAskedAhead() {
        sentence("promise 4", "or it is LIT (asked ahead of -2)");
        CharcoalYard y = new CharcoalYard();
        due("no such height, n -1", y.layRow(1, 2, -1, 0, 0), -1);
        due("no such height, the least n", y.layRow(-1, 2, MIN, 0, 0), -1);
        due("no such kind, n -1", y.layRow(0, 4, -1, 0, 0), -1);
        due("no such kind, n -1", y.layRow(0, -1, -1, 0, 0), -1);
        y.lay(0, 0, 0);
        y.light();
        due("lit, n -1", y.layRow(0, 2, -1, 0, 0), -1);
        due("lit", y.layRow(0, 2, 1, 1, 0), -1);
        due("lit, n 0", y.layRow(0, 2, 0, 1, 0), -1);
        due("lit, a missing row", y.layRow(0, 3, 1, 1, 0), -1);
        due("nothing is laid", cell(y, 0, 0, 8), 0);
    }

    private static void rowMissing() {
        sentence("promise 4", "Of a missing row: 0");
        CharcoalYard y = new CharcoalYard();
        y.clamp(2, 2);
        due("n 2", y.layRow(0, 3, 2, 0, 0), 0);
        due("n 0", y.layRow(0, 3, 0, 0, 0), 0);
        due("n 20", y.layRow(1, 3, 20, 0, 0), 0);
        due("n -1, as there is no row to be too short", y.layRow(0, 3, -1, 0, 0), 0);
        due("n 21 is NONE", y.layRow(0, 3, 21, 0, 0), -1);
        due("no such height is NONE", y.layRow(2, 3, 2, 0, 0), -1);
        due("nothing is laid", y.all(0), 0);
    }

    // ---- promise 5

    private static void hole() {
        sentence("promise 5", "A HOLE, SHUT, at a CELL that is OUTSIDE: its number");
        CharcoalYard y = new CharcoalYard();
        y.clamp(3, 3);
        int[][] outside = {{2, 0}, {2, 1}, {2, 2}, {0, 2}, {1, 2}};
        for (int i = 0; i < outside.length; i++) {
            due("hole(" + outside[i][0] + ", " + outside[i][1] + ")", y.hole(outside[i][0], outside[i][1]), i);
            due("shut", y.count(3), 0);
        }
        int[][] inside = {{0, 0}, {0, 1}, {1, 0}, {1, 1}};
        for (int[] n : inside) {
            due("hole(" + n[0] + ", " + n[1] + ") inside", y.hole(n[0], n[1]), -1);
        }
        due("holes", y.count(2), 5);
        holeNoneSuch();
        twelveHoles();
        holeWhileLit();
    }

    private static void holeNoneSuch() {
        sentence("promise 5", "NONE: no such CELL");
        CharcoalYard y = new CharcoalYard();
        int[][] none = {{1, 0}, {0, 1}, {-1, 0}, {0, -1}, {MAX, 0}, {0, MIN}, {MIN, MIN}, {MAX, MAX}};
        for (int[] n : none) {
            due("hole(" + n[0] + ", " + n[1] + ")", y.hole(n[0], n[1]), -1);
        }
        due("holes", y.count(2), 0);
    }

    private static void twelveHoles() {
        sentence("promise 5", "NONE: no such CELL, 12");
        CharcoalYard y = new CharcoalYard();
        y.clamp(8, 8);
        for (int i = 0; i < 12; i++) {
            due("hole " + i, y.hole(7, i % 8), i);
        }
        due("a thirteenth at another cell", y.hole(0, 7), -1);
        due("holes", y.count(2), 12);
        y.clamp(8, 8);
        due("behind clamp()", y.hole(0, 7), 0);
    }

    private static void holeWhileLit() {
        sentence("promise 5", "12, or it is LIT");
        CharcoalYard y = litOne(0);
        due("while lit", y.hole(0, 0), -1);
        due("holes", y.count(2), 1);
        y.rake();
        due("behind rake()", y.hole(0, 0), 1);
    }

    // ---- promise 6

    private static void light() {
        sentence("promise 6", "the CELL in the middle on the ground has FIRE, and HEAT 500: true");
        CharcoalYard y = laid(2, 2, 2);
        due("light()", y.light(), true);
        dueCell("the middle on the ground", y, 0, 0, 100, 0, 60, 500, 1);
        dueCell("above it", y, 0, 1, 100, 0, 60, 0, 0);
        dueCell("beside it", y, 1, 0, 300, 0, 180, 0, 0);
        dueCounts("lit", y, 2, 2, 0, 0, 0, 0, 1, 1, 0);
        noWoodInTheMiddle();
        lightWhileLit();
    }

    private static void noWoodInTheMiddle() {
        sentence("promise 6", "false if it has no WOOD");
        CharcoalYard y = laid(2, 2, 0);
        y.clamp(2, 2);
        y.lay(0, 1, 0);
        y.lay(1, 0, 0);
        y.lay(1, 1, 0);
        due("all but the middle on the ground", y.light(), false);
        dueCounts("not lit", y, 2, 2, 0, 0, 0, 0, 0, 0);
        due("no heat", cell(y, 0, 0, 3), 0);
        due("watch() may still be called", y.watch(1), true);
        y.lay(0, 0, 0);
        due("laid", y.light(), true);
        y.rake();
        due("raked out", y.light(), false);
    }

    private static void lightWhileLit() {
        sentence("promise 6", "no WOOD, or it is LIT");
        CharcoalYard y = litRow(2, 0);
        work(y, 2);
        y.cover(0, 0, 0);
        y.open(0, false);
        tell(y, "t<99:+5");
        due("light()", y.light(), false);
        dueCell("heat is not 500 anew", y, 0, 0, 88, 3, 0, 620, 1);
        dueCounts("as it was", y, 2, 1, 1, 0, 1, 2, 1, 1, 2);
        due("worked again from the first light() on: coal", y.again(0, 0, 1), 3);
        due("the hole was open then, and the cover whole: air 3", y.told(1, 2), 9);
        due("a rule of hour 2 does not act from the first hour on", y.told(0, 3), 0);
        y.cover(0, 0, 5);
        work(y, 13);
        due("out", y.count(7), 0);
        due("without fire it is lit still", y.light(), false);
    }

    // ---- promise 7

    private static void open() {
        sentence("promise 7", "A HOLE is OPEN or SHUT (ahead of light(), too): true");
        CharcoalYard y = laid(1, 1, 0);
        y.hole(0, 0);
        due("open", y.open(0, true), true);
        due("open already", y.open(0, true), true);
        due("open ones", y.count(3), 1);
        due("shut", y.open(0, false), true);
        due("shut already", y.open(0, false), true);
        due("open ones", y.count(3), 0);
        y.light();
        due("while lit", y.open(0, true), true);
        due("open ones", y.count(3), 1);
        openNoneSuch();
        openHundredActs();
        openAheadOfLightIsNotKept();
    }

    private static void openNoneSuch() {
        sentence("promise 7", "false without such");
        CharcoalYard y = laid(1, 1, 0);
        due("without holes", y.open(0, true), false);
        y.hole(0, 0);
        y.hole(0, 0);
        y.light();
        int[] none = {-1, 2, 11, 12, MIN, MAX};
        for (int hole : none) {
            due("open(" + hole + ", true)", y.open(hole, true), false);
            due("open(" + hole + ", false)", y.open(hole, false), false);
        }
        due("open ones", y.count(3), 0);
        due("none is kept", y.count(8), 0);
        due("the last one", y.open(1, true), true);
    }

    private static void openHundredActs() {
        sentence("promise 7", "or if 100 acts BY HAND were kept");
        CharcoalYard y = laid(1, 1, 0);
        y.hole(0, 0);
        y.light();
        for (int i = 0; i < 99; i++) {
            y.cover(0, 0, 7);
        }
        due("the hundredth", y.open(0, true), true);
        due("kept", y.count(8), 100);
        due("one more", y.open(0, false), false);
        due("it is open still", y.count(3), 1);
        due("kept", y.count(8), 100);
        work(y, 1);
        due("one more in another hour", y.open(0, false), false);
        y.again(0, 0, 0);
        due("open behind again()", y.count(3), 1);
        due("kept behind again()", y.count(8), 100);
        due("one more behind again()", y.open(0, false), false);
        y.rake();
        due("behind rake()", y.open(0, true), true);
        due("none is kept", y.count(8), 0);
    }

    private static void openAheadOfLightIsNotKept() {
        sentence("promise 7", "(ahead of light(), too)");
        CharcoalYard y = laid(1, 1, 0);
        y.hole(0, 0);
        for (int i = 0; i < 101; i++) {
            due("ahead of light(), act " + i, y.open(0, i % 2 == 0), true);
        }
        due("none is kept", y.count(8), 0);
        due("open", y.count(3), 1);
        y.light();
        due("kept while lit", y.open(0, false) && y.count(8) == 1, true);
    }

    // ---- promise 8

    private static void cover() {
        sentence("promise 8", "COVER of a CELL OUTSIDE becomes v (0 .. 9");
        CharcoalYard y = laid(2, 2, 0);
        int[] good = {0, 1, 8, 9};
        for (int v : good) {
            due("cover(1, 1, " + v + ")", y.cover(1, 1, v), true);
            due("cover", cell(y, 1, 1, 5), v);
        }
        int[] others = {-1, 10, MIN, MAX};
        for (int v : others) {
            due("cover(1, 1, " + v + ")", y.cover(1, 1, v), false);
        }
        due("as it was", cell(y, 1, 1, 5), 9);
        coverInsideOrNoneSuch();
        coverHundredActs();
        coverAheadOfLightIsNotKept();
    }

    private static void coverInsideOrNoneSuch() {
        sentence("promise 8", "true; false likewise");
        CharcoalYard y = laid(2, 2, 0);
        y.light();
        int[][] none = {{0, 0}, {2, 0}, {0, 2}, {-1, 1}, {1, -1}, {MIN, 1}, {1, MAX}};
        for (int[] n : none) {
            due("cover(" + n[0] + ", " + n[1] + ", 3)", y.cover(n[0], n[1], 3), false);
        }
        due("cover(1, 0, 10)", y.cover(1, 0, 10), false);
        due("none is kept", y.count(8), 0);
        due("inside", cell(y, 0, 0, 5), -1);
    }

    private static void coverHundredActs() {
        sentence("promise 8", "false likewise");
        CharcoalYard y = laid(1, 1, 0);
        y.hole(0, 0);
        y.light();
        for (int i = 0; i < 99; i++) {
            y.open(0, i % 2 == 0);
        }
        due("the hundredth", y.cover(0, 0, 3), true);
        due("one more", y.cover(0, 0, 4), false);
        due("cover", cell(y, 0, 0, 5), 3);
        due("kept", y.count(8), 100);
        y.clamp(1, 1);
        due("behind clamp()", y.cover(0, 0, 4), true);
    }

    private static void coverAheadOfLightIsNotKept() {
        sentence("promise 8", "ahead of light(), too");
        CharcoalYard y = laid(1, 1, 0);
        for (int i = 0; i < 101; i++) {
            due("ahead of light(), act " + i, y.cover(0, 0, i % 10), true);
        }
        due("none is kept", y.count(8), 0);
        y.light();
        y.hour(0, 0);
        due("it was bare", cell(y, 0, 0, 6), 4);
        y.again(0, 1, 0);
        due("cover as light() left it", cell(y, 0, 0, 5), 0);
    }

    // ---- promise 9

    private static void watch() {
        sentence("promise 9", "Hours are WATCHED whose number's rest by 24 has its bit");
        watchedHours(1, 0);
        watchedHours(1 << 23, 23);
        watchedHours(1 << 12, 12);
        lowestBitsAlone();
        watchedAtFirst();
        watchWhileLit();
    }

    /** A rule that holds in hours that are not watched tells which of 50 are. */
    private static CharcoalYard unwatchedTold(CharcoalYard y) {
        tell(y, "k=99:+0");
        y.light();
        work(y, 50);
        return y;
    }

    private static void watchedHours(int bits, int rest) {
        CharcoalYard y = laid(1, 1, 0);
        due("watch(" + bits + ")", y.watch(bits), true);
        unwatchedTold(y);
        for (int hour = 0; hour < 50; hour++) {
            due("watch(" + bits + "), hour " + hour, y.told(hour, 3), hour % 24 == rest ? 0 : 1);
        }
    }

    private static void lowestBitsAlone() {
        sentence("promise 9", "in the lowest 24 of these");
        int[] none = {0, 1 << 24, 0xFF000000, MIN};
        for (int bits : none) {
            CharcoalYard y = laid(1, 1, 0);
            y.watch(bits);
            unwatchedTold(y);
            int unwatched = 0;
            for (int hour = 0; hour < 50; hour++) {
                unwatched += y.told(hour, 3);
            }
            due("hours not watched behind watch(" + bits + ")", unwatched, 50);
        }
        int[] all = {0xFFFFFF, -1, MAX};
        for (int bits : all) {
            CharcoalYard y = laid(1, 1, 0);
            y.watch(0);
            y.watch(bits);
            unwatchedTold(y);
            int unwatched = 0;
            for (int hour = 0; hour < 50; hour++) {
                unwatched += y.told(hour, 3);
            }
            due("hours not watched behind watch(" + bits + ")", unwatched, 0);
        }
    }

    private static void watchedAtFirst() {
        sentence("promise 9", "(at first all): true");
        CharcoalYard y = unwatchedTold(laid(1, 1, 0));
        for (int hour = 0; hour < 50; hour++) {
            due("hour " + hour, y.told(hour, 3), 0);
        }
    }

    private static void watchWhileLit() {
        sentence("promise 9", "false while it is LIT");
        CharcoalYard y = laid(1, 1, 0);
        y.watch(1);
        tell(y, "k=99:+0");
        y.light();
        due("watch(-1)", y.watch(-1), false);
        work(y, 2);
        due("hour 0 is watched", y.told(0, 3), 0);
        due("hour 1 is not", y.told(1, 3), 1);
        y.rake();
        due("behind rake()", y.watch(2), true);
        y.lay(0, 0, 0);
        y.light();
        work(y, 2);
        due("hour 0 is not watched", y.told(0, 3), 1);
        due("hour 1 is", y.told(1, 3), 0);
    }

    // ---- promise 10

    private static void hour() {
        sentence("promise 10", "An HOUR: the SMOKE in it");
        CharcoalYard y = litOne(0);
        int[] smoke = {0, 12, 12, 12, 12, 12, 12, 3, 0};
        for (int hour = 0; hour < smoke.length; hour++) {
            due("hour " + hour, y.hour(0, 0), smoke[hour]);
        }
        otherWeather();
        hourNotLit();
        hoursFull();
    }

    private static void otherWeather() {
        sentence("promise 10", "NONE: other RAIN, WIND");
        CharcoalYard y = litOne(0);
        int[] others = {-1, MIN, MAX};
        for (int n : others) {
            due("hour(" + n + ", 0)", y.hour(n, 0), -1);
            due("hour(0, " + n + ")", y.hour(0, n), -1);
        }
        due("hour(10, 0)", y.hour(10, 0), -1);
        due("hour(0, 4)", y.hour(0, 4), -1);
        due("no hour was", y.count(5), 0);
        dueCell("nothing is changed", y, 0, 0, 100, 0, 20, 500, 1, 5, 0);
        due("hour(9, 3)", y.hour(9, 3), 0);
        dueCell("rain 9, wind 3", y, 0, 0, 100, 0, 9, 500, 1, 5, 7);
        due("hour(0, 0)", y.hour(0, 0), 0);
        due("hours", y.count(5), 2);
    }

    private static void hourNotLit() {
        sentence("promise 10", "other RAIN, WIND, not LIT");
        CharcoalYard y = laid(1, 1, 0);
        due("ahead of light()", y.hour(0, 0), -1);
        due("no hour was", y.count(5), 0);
        y.light();
        y.hour(0, 0);
        y.rake();
        due("behind rake()", y.hour(0, 0), -1);
        y.lay(0, 0, 0);
        y.light();
        y.clamp(1, 1);
        due("behind clamp()", y.hour(0, 0), -1);
        due("no hour was", y.count(5), 0);
    }

    private static void hoursFull() {
        sentence("promise 10", "or 300 were");
        CharcoalYard y = laid(1, 1, 0);
        y.light();
        work(y, 299, 1, 0);
        due("the 300th", y.hour(2, 3), 0);
        due("one more", y.hour(0, 0), -1);
        due("hours", y.count(5), 300);
        due("the last one's rain", y.told(299, 0), 2);
        due("the last one's wind", y.told(299, 1), 3);
        due("none such", y.told(300, 0), -1);
        y.cover(0, 0, 7);
        due("an act behind the last hour is kept", y.count(8), 1);
        due("again(299, 1, 1)", y.again(299, 1, 1), 0);
        due("again(300, 1, 1)", y.again(300, 1, 1), -1);
        due("hours", y.count(5), 300);
        due("one more behind again()", y.hour(0, 0), -1);
        due("the last act", cell(y, 0, 0, 5), 7);
        y.rake();
        y.lay(0, 0, 0);
        y.light();
        due("lit again", y.hour(0, 0), 0);
    }

    // ---- promise 11

    private static void again() {
        weatherIsAnother();
        asLightLeftIt();
        holesAsLightLeftThem();
        byHandInItsOrder();
        byHandInTheHourThatIs();
        coalThen();
        againNoneSuch();
        againChangesNothing();
    }

    private static void weatherIsAnother() {
        sentence("promise 11", "RAIN and WIND of an HOUR that was are others");
        CharcoalYard y = litOne(0);
        y.hour(1, 1);
        y.hour(2, 2);
        y.hour(3, 3);
        y.again(0, 9, 3);
        y.again(2, 0, 0);
        int[][] want = {{9, 3}, {2, 2}, {0, 0}};
        for (int hour = 0; hour < 3; hour++) {
            due("rain of hour " + hour, y.told(hour, 0), want[hour][0]);
            due("wind of hour " + hour, y.told(hour, 1), want[hour][1]);
        }
        due("hours", y.count(5), 3);
        due("again(0, 0, 0)", y.again(0, 0, 0), 0);
        due("smoke of hour 1, dry now: air 6", y.told(1, 2), 18);
    }

    private static void asLightLeftIt() {
        sentence("promise 11", "all is as light() left it, then worked again");
        CharcoalYard y = litOne(0);
        work(y, 12);
        dueCell("burnt down", y, 0, 0, 0, 0, 0, 1000, 0, 0, 4, 100, 0);
        due("breached", y.breach(0, 0), 8);
        for (int hour = 0; hour < 12; hour++) {
            y.again(hour, 9, 0);
        }
        dueCell("rain in each hour", y, 0, 0, 100, 0, 9, 500, 1, 5, 4, 100, 0);
        due("no breach", y.breach(0, 0), -1);
        due("no smoke", y.all(3), 0);
        due("no ash", y.all(4), 0);
        due("wood", y.all(1), 100);
        for (int hour = 0; hour < 12; hour++) {
            due("smoke of hour " + hour, y.told(hour, 2), 0);
            due("fires of hour " + hour, y.told(hour, 4), 1);
            due("bare ones of hour " + hour, y.told(hour, 5), 0);
        }
    }

    /** What rules did to holes and cover is undone, if they do not hold in the weather that is told anew. */
    private static void holesAsLightLeftThem() {
        sentence("promise 11", "all is as light() left it");
        CharcoalYard y = laid(1, 1, 0);
        y.hole(0, 0);
        y.hole(0, 0);
        y.open(0, true);
        y.cover(0, 0, 6);
        tell(y, "r=9:~");
        tell(y, "r=8:+1");
        tell(y, "r=9:^");
        y.light();
        y.hour(9, 0);
        due("all shut", y.count(3), 0);
        y.hour(8, 0);
        due("hole 1 is open", y.count(3), 1);
        due("cover", cell(y, 0, 0, 5), 9);
        y.again(0, 0, 0);
        due("hole 0, and hole 1 in hour 1", y.count(3), 2);
        due("smoke of hour 1", y.told(1, 2), 12);
        y.again(1, 0, 0);
        due("hole 0 alone", y.count(3), 1);
        y.open(0, false);
        due("hole 1 is shut", y.count(3), 0);
        due("cover", cell(y, 0, 0, 5), 6);
    }

    private static void byHandInItsOrder() {
        sentence("promise 11", "of each HOUR what came BY HAND in it, in its order, then the HOUR itself");
        CharcoalYard y = laid(1, 1, 0);
        y.hole(0, 0);
        y.light();
        y.open(0, true);
        y.hour(0, 0);
        y.open(0, false);
        y.open(0, true);
        y.cover(0, 0, 3);
        y.cover(0, 0, 8);
        y.hour(0, 0);
        y.open(0, true);
        y.open(0, false);
        y.hour(0, 0);
        due("again(0, 0, 0)", y.again(0, 0, 0), 0);
        int[] smoke = {0, 12, 0};
        for (int hour = 0; hour < 3; hour++) {
            due("smoke of hour " + hour, y.told(hour, 2), smoke[hour]);
        }
        due("the later cover", cell(y, 0, 0, 5), 8);
        due("shut last", y.count(3), 0);
        due("acts are kept", y.count(8), 7);
        due("worked again once more", y.again(2, 0, 0), 0);
        due("smoke of hour 1", y.told(1, 2), 12);
        byHandAtItsPlace();
    }

    private static void byHandAtItsPlace() {
        CharcoalYard y = laid(2, 2, 0);
        y.hole(1, 0);
        y.hole(0, 1);
        y.light();
        y.open(1, true);
        y.cover(1, 1, 9);
        y.hour(0, 0);
        y.again(0, 1, 0);
        due("air of the hole that was opened", cell(y, 0, 1, 6), 4);
        due("air of the other", cell(y, 1, 0, 6), 2);
        due("cover of the cell that was covered", cell(y, 1, 1, 5), 9);
        due("cover of another", cell(y, 0, 1, 5), 5);
        y.open(0, false);
        due("the open one is hole 1", y.count(3), 1);
        twelveHolesWorkedAgain();
    }

    private static void twelveHolesWorkedAgain() {
        CharcoalYard y = laid(1, 1, 0);
        for (int i = 0; i < 12; i++) {
            y.hole(0, 0);
            y.open(i, i % 2 == 1);
        }
        tell(y, "r=0:~");
        y.light();
        y.hour(0, 0);
        due("all shut", y.count(3), 0);
        due("again(0, 1, 0)", y.again(0, 1, 0), 0);
        due("six open, as light() left them", y.count(3), 6);
        due("the last one was", y.open(11, false) && y.count(3) == 5, true);
    }

    private static void byHandInTheHourThatIs() {
        sentence("promise 11", "last what came BY HAND in the HOUR that is");
        CharcoalYard y = laid(1, 1, 0);
        y.hole(0, 0);
        tell(y, "r=0:~");
        tell(y, "r=0:^");
        y.light();
        y.hour(0, 0);
        y.open(0, true);
        y.cover(0, 0, 2);
        y.again(0, 0, 1);
        due("opened behind the last hour", y.count(3), 1);
        due("cover laid behind the last hour", cell(y, 0, 0, 5), 2);
        due("it gave no air yet", cell(y, 0, 0, 6), 0);
        due("acts", y.count(8), 2);
        y.hour(1, 0);
        due("now it does", cell(y, 0, 0, 6), 4);
    }

    private static void coalThen() {
        sentence("promise 11", "how much COAL there is then");
        CharcoalYard y = withCoal(9);
        due("coal", y.all(2), 24);
        due("the same weather", y.again(8, 0, 0), 24);
        due("an hour to dry", y.again(0, 1, 0), 21);
        due("coal", y.all(2), 21);
        due("18, 4 more and 5 less by air 4 in the last hour", y.again(8, 0, 1), 17);
    }

    private static void againNoneSuch() {
        sentence("promise 11", "NONE: no such HOUR, RAIN, WIND");
        CharcoalYard y = laid(1, 1, 0);
        due("ahead of light()", y.again(0, 0, 0), -1);
        y.light();
        due("ahead of any hour", y.again(0, 0, 0), -1);
        work(y, 2);
        int[][] none = {{-1, 0, 0}, {2, 0, 0}, {300, 0, 0}, {MIN, 0, 0}, {MAX, 0, 0}, {0, -1, 0}, {0, 10, 0}, {0, MIN, 0}, {0, MAX, 0},
            {0, 0, -1}, {0, 0, 4}, {0, 0, MIN}, {0, 0, MAX}};
        for (int[] n : none) {
            due("again(" + n[0] + ", " + n[1] + ", " + n[2] + ")", y.again(n[0], n[1], n[2]), -1);
        }
        due("again(0, 9, 3)", y.again(0, 9, 3), 0);
        due("again(1, 0, 0)", y.again(1, 0, 0), 0);
        y.rake();
        due("behind rake()", y.again(0, 0, 0), -1);
        y.lay(0, 0, 0);
        y.light();
        y.hour(0, 0);
        y.clamp(1, 1);
        due("behind clamp()", y.again(0, 0, 0), -1);
    }

    private static void againChangesNothing() {
        sentence("promise 11", "there is then. NONE");
        CharcoalYard y = withCoal(3);
        y.again(3, 0, 0);
        y.again(1, 10, 0);
        y.again(1, 0, 4);
        dueCell("refused", y, 0, 0, 76, 6, 0, 740, 1, 5, 3);
        int[] smoke = {0, 9, 9};
        for (int hour = 0; hour < 3; hour++) {
            due("rain of hour " + hour, y.told(hour, 0), 0);
            due("wind of hour " + hour, y.told(hour, 1), 0);
            due("smoke of hour " + hour, y.told(hour, 2), smoke[hour]);
        }
    }

    // ---- promise 12

    private static void rake() {
        basketsOfTwentyFive();
        theRestIsThrownAway();
        noCoalToRake();
        asBehindClamp();
        holesStayShut();
        rakeNotLit();
    }

    private static void basketsOfTwentyFive() {
        sentence("promise 12", "all COAL is taken: baskets of 25");
        CharcoalYard below = withCoal(9);
        due("24 coal", below.all(2), 24);
        due("no basket", below.rake(), 0);
        CharcoalYard one = withCoal(10);
        due("25 coal", one.all(2), 25);
        due("one basket", one.rake(), 1);
        due("all is taken", one.all(2), 0);
        due("baskets in all", one.count(11), 1);
        CharcoalYard two = litRow(3, 0);
        work(two, 12);
        due("22 coal", cell(two, 0, 0, 1), 22);
        due("9 coal", cell(two, 1, 0, 1), 9);
        due("one basket of two cells", two.rake(), 1);
    }

    private static void theRestIsThrownAway() {
        sentence("promise 12", "the rest left over is thrown away");
        CharcoalYard y = withCoal(9);
        due("24 coal", y.rake(), 0);
        y.lay(0, 0, 0);
        y.lay(1, 0, 0);
        y.open(0, true);
        y.light();
        work(y, 9);
        due("24 more", y.all(2), 24);
        due("not 48", y.rake(), 0);
        due("baskets in all", y.count(11), 0);
    }

    private static void noCoalToRake() {
        sentence("promise 12", "The CLAMP is raked out");
        CharcoalYard y = laid(1, 1, 0);
        y.light();
        due("no coal, no hour", y.rake(), 0);
        dueCounts("raked out", y, 1, 1, 0, 0, 0, 0, 0, 0, 0, 0, 0, 0);
        due("the wood is gone", y.all(1), 0);
    }

    private static void asBehindClamp() {
        sentence("promise 12", "it is not LIT then, CELLS, hours and what came BY HAND are as behind clamp()");
        CharcoalYard y = litOne(3);
        y.wood(1, 2, 3);
        tell(y, "t>200:^");
        y.cover(0, 0, 1);
        work(y, 20);
        write(y, "ab");
        y.rake();
        dueCounts("behind rake", y, 1, 1, 1, 0, 1, 0, 0, 0, 0, 1, 2);
        dueCell("behind rake", y, 0, 0, 0, 0, 0, 0, 0, 5, 0, 0, 0);
        for (int what = 0; what < 5; what++) {
            due("all(" + what + ")", y.all(what), 0);
        }
        due("told(0, 0)", y.told(0, 0), -1);
        due("breach(0, 0)", y.breach(0, 0), -1);
        due("again(0, 0, 0)", y.again(0, 0, 0), -1);
        due("light() of an empty one", y.light(), false);
    }

    private static void holesStayShut() {
        sentence("promise 12", "HOLES stay, SHUT");
        CharcoalYard y = laid(2, 1, 0);
        for (int i = 0; i < 12; i++) {
            y.hole(i % 2, 0);
            y.open(i, true);
        }
        y.light();
        y.rake();
        due("holes", y.count(2), 12);
        due("open ones", y.count(3), 0);
        y.lay(0, 0, 0);
        y.open(11, true);
        y.light();
        y.hour(0, 0);
        due("at its cell: ring 1", cell(y, 1, 0, 6), 4);
        due("ring 0", cell(y, 0, 0, 6), 3);
    }

    private static void rakeNotLit() {
        sentence("promise 12", "NONE: it is not LIT");
        CharcoalYard y = laid(1, 1, 0);
        y.hole(0, 0);
        y.open(0, true);
        y.cover(0, 0, 7);
        due("laid, not lit", y.rake(), -1);
        dueCell("as it was", y, 0, 0, 100, 0, 20, 0, 0, 7, 0, 100, 0);
        due("the hole is open still", y.count(3), 1);
        y.light();
        due("lit", y.rake(), 0);
        due("raked already", y.rake(), -1);
    }

    // ---- promise 13

    private static void count() {
        sentence("promise 13", "What 0: RINGS, 1: HEIGHTS, 2: HOLES, 3: OPEN ones, 4: RULES, 5: HOUR, 6: whether LIT (1, 0)");
        CharcoalYard y = withCoal(10);
        y.rake();
        y.clamp(2, 3);
        y.lay(0, 0, 0);
        for (int i = 0; i < 4; i++) {
            y.hole(1, 0);
        }
        y.open(1, true);
        y.open(3, true);
        for (int i = 0; i < 5; i++) {
            tell(y, "t>99:^");
        }
        for (int i = 0; i < 9; i++) {
            y.wood(1, 1, 1);
        }
        write(y, "0123456789");
        y.light();
        work(y, 6);
        for (int i = 0; i < 8; i++) {
            y.cover(1, 2, 4);
        }
        dueCounts("all of them", y, 2, 3, 4, 2, 5, 6, 1, 1, 8, 9, 10, 1);
        basketsInAll();
        countOthers();
    }

    private static void basketsInAll() {
        sentence("promise 13", "11: baskets in all");
        CharcoalYard y = withCoal(10);
        y.rake();
        due("of one burning", y.count(11), 1);
        y.lay(0, 0, 0);
        y.lay(1, 0, 0);
        y.open(0, true);
        y.light();
        work(y, 10);
        due("not yet raked", y.count(11), 1);
        y.rake();
        due("of two burnings", y.count(11), 2);
    }

    private static void countOthers() {
        sentence("promise 13", "11: baskets in all. NONE for another what");
        CharcoalYard y = new CharcoalYard();
        due("count(11)", y.count(11), 0);
        int[] others = {-1, 12, MIN, MAX};
        for (int what : others) {
            due("count(" + what + ")", y.count(what), -1);
        }
    }

    // ---- promise 14

    private static void cellOf() {
        coverOfOneInside();
        airOfTheLatestHour();
        kindAtFirst();
        cellNoneSuch();
        cellAnotherWhat();
    }

    private static void coverOfOneInside() {
        sentence("promise 14", "5: COVER (NONE if it is not OUTSIDE)");
        CharcoalYard y = laid(2, 2, 0);
        due("inside", cell(y, 0, 0, 5), -1);
        due("the last ring", cell(y, 1, 0, 5), 5);
        due("the last height", cell(y, 0, 1, 5), 5);
        y.clamp(1, 2);
        due("one ring: all are outside", cell(y, 0, 0, 5), 5);
        y.clamp(2, 1);
        due("one height: all are outside", cell(y, 0, 0, 5), 5);
    }

    private static void airOfTheLatestHour() {
        sentence("promise 14", "6: AIR of the latest HOUR (0 ahead of any)");
        CharcoalYard y = litOne(0);
        due("ahead of any", cell(y, 0, 0, 6), 0);
        y.hour(0, 3);
        due("wind 3", cell(y, 0, 0, 6), 7);
        y.hour(0, 1);
        due("wind 1", cell(y, 0, 0, 6), 5);
        y.open(0, false);
        due("shut, the latest hour's still", cell(y, 0, 0, 6), 5);
        y.hour(0, 4);
        due("behind an hour that is refused", cell(y, 0, 0, 6), 5);
        y.again(1, 0, 2);
        due("worked again", cell(y, 0, 0, 6), 6);
        y.rake();
        due("behind rake()", cell(y, 0, 0, 6), 0);
        y.lay(0, 0, 0);
        y.light();
        due("lit again", cell(y, 0, 0, 6), 0);
    }

    private static void kindAtFirst() {
        sentence("promise 14", "8: KIND (0 at first)");
        CharcoalYard y = new CharcoalYard();
        due("at first", cell(y, 0, 0, 8), 0);
        y.lay(0, 0, 3);
        due("laid", cell(y, 0, 0, 8), 3);
        y.light();
        y.rake();
        due("behind rake()", cell(y, 0, 0, 8), 0);
        y.lay(0, 0, 2);
        y.clamp(1, 1);
        due("behind clamp()", cell(y, 0, 0, 8), 0);
    }

    private static void cellNoneSuch() {
        sentence("promise 14", "NoSuchElementException: no such CELL");
        CharcoalYard y = laid(2, 3, 0);
        int[][] none = {{2, 0}, {-1, 0}, {0, 3}, {0, -1}, {1, 3}, {2, 2}, {MIN, 0}, {MAX, 0}, {0, MIN}, {0, MAX}, {7, 7}};
        for (int[] n : none) {
            for (int what = 0; what < 9; what++) {
                due("cell(" + n[0] + ", " + n[1] + ", " + what + ")", cell(y, n[0], n[1], what), THROWN);
            }
        }
        due("cell(1, 2, 0)", cell(y, 1, 2, 0), 300);
    }

    private static void cellAnotherWhat() {
        sentence("promise 14", "no such CELL, another what");
        CharcoalYard y = laid(1, 1, 3);
        due("cell(0, 0, 8)", cell(y, 0, 0, 8), 3);
        due("cell(0, 0, 0)", cell(y, 0, 0, 0), 100);
        int[] others = {-1, 9, MIN, MAX};
        for (int what : others) {
            due("cell(0, 0, " + what + ")", cell(y, 0, 0, what), THROWN);
        }
    }

    // ---- promise 15

    private static void all() {
        sinceLight();
        sumOfTheOthers();
        allAnotherWhat();
    }

    private static void sinceLight() {
        sentence("promise 15", "3: SMOKE, 4: ASH (these two since light(); 0 ahead of it)");
        CharcoalYard y = laid(1, 1, 0);
        y.hole(0, 0);
        due("smoke ahead of it", y.all(3), 0);
        due("ash ahead of it", y.all(4), 0);
        y.open(0, true);
        y.light();
        work(y, 2);
        due("smoke", y.all(3), 12);
        due("ash", y.all(4), 4);
        y.rake();
        due("smoke behind rake()", y.all(3), 0);
        due("ash behind rake()", y.all(4), 0);
        y.lay(0, 0, 0);
        y.open(0, true);
        y.light();
        work(y, 2);
        due("smoke since the latest light()", y.all(3), 12);
        due("ash since the latest light()", y.all(4), 4);
    }

    private static void sumOfTheOthers() {
        sentence("promise 15", "(0 is the sum of the others.)");
        CharcoalYard y = new CharcoalYard();
        due("empty", y.all(0), 0);
        y.clamp(3, 2);
        for (int height = 0; height < 2; height++) {
            y.layRow(height, 2, 3, 1, 1);
        }
        y.hole(2, 0);
        y.open(0, true);
        due("laid", y.all(0), y.all(1));
        y.light();
        for (int i = 0; i < 31; i++) {
            y.hour(0, i % 2);
            due("hour " + i, y.all(1) + y.all(2) + y.all(3) + y.all(4), 1800);
        }
        due("full", y.all(0), 1800);
        due("there are wood, coal, smoke and ash", y.all(1) > 0 && y.all(2) > 0 && y.all(3) > 0 && y.all(4) > 0, true);
    }

    private static void allAnotherWhat() {
        sentence("promise 15", "NONE for another what");
        CharcoalYard y = litOne(0);
        int[] others = {-1, 5, MIN, MAX};
        for (int what : others) {
            due("all(" + what + ")", y.all(what), -1);
        }
        due("all(4)", y.all(4), 0);
        due("all(0)", y.all(0), 100);
    }

    // ---- promise 16

    private static void told() {
        sentence("promise 16", "3: bits of the RULES that acted");
        CharcoalYard y = laid(1, 1, 0);
        for (int i = 0; i < 8; i++) {
            tell(y, "t=" + i + ":^");
        }
        y.light();
        work(y, 9);
        for (int hour = 0; hour < 9; hour++) {
            due("told(" + hour + ", 3)", y.told(hour, 3), hour < 8 ? 1 << hour : 0);
        }
        allEightAct();
        firesBehindIt();
        bareBehindPartFour();
        toldNoneSuch();
        toldAnotherWhat();
    }

    private static void allEightAct() {
        CharcoalYard y = laid(1, 1, 0);
        for (int i = 0; i < 8; i++) {
            tell(y, "t<9:~");
        }
        y.light();
        y.hour(0, 0);
        due("all eight", y.told(0, 3), 255);
    }

    private static void firesBehindIt() {
        sentence("promise 16", "4: CELLS with FIRE behind it");
        CharcoalYard y = litRow(2, 2);
        work(y, 12, 9, 0);
        due("one", y.told(10, 4), 1);
        due("ring 1 caught in it", y.told(11, 4), 2);
        CharcoalYard out = laid(1, 1, 0);
        out.light();
        work(out, 10);
        due("one", out.told(8, 4), 1);
        due("out in it", out.told(9, 4), 0);
    }

    private static void bareBehindPartFour() {
        sentence("promise 16", "5: CELLS OUTSIDE with COVER 0 behind 4");
        CharcoalYard y = litOne(0);
        y.watch(0);
        tell(y, "t=4:^");
        y.cover(0, 0, 1);
        work(y, 5);
        due("none", y.told(3, 5), 0);
        due("bare behind part 4, though part 6 covered it", y.told(4, 5), 1);
        due("covered", cell(y, 0, 0, 5), 3);
        y.cover(0, 0, 0);
        due("by hand, behind it", y.told(4, 5), 1);
        y.hour(0, 0);
        due("by hand, ahead of it", y.told(5, 5), 1);
    }

    private static void toldNoneSuch() {
        sentence("promise 16", "Of an HOUR that was");
        CharcoalYard y = laid(1, 1, 0);
        due("ahead of light()", y.told(0, 0), -1);
        y.light();
        due("ahead of any hour", y.told(0, 0), -1);
        y.hour(5, 2);
        due("told(0, 0)", y.told(0, 0), 5);
        due("told(0, 1)", y.told(0, 1), 2);
        int[] none = {-1, 1, 299, 300, MIN, MAX};
        for (int hour : none) {
            for (int what = 0; what < 6; what++) {
                due("told(" + hour + ", " + what + ")", y.told(hour, what), -1);
            }
        }
    }

    private static void toldAnotherWhat() {
        sentence("promise 16", "NONE: none such, another what");
        CharcoalYard y = laid(1, 1, 0);
        y.cover(0, 0, 0);
        y.light();
        y.hour(5, 2);
        due("told(0, 5)", y.told(0, 5), 1);
        int[] others = {-1, 6, MIN, MAX};
        for (int what : others) {
            due("told(0, " + what + ")", y.told(0, what), -1);
        }
    }

    // ---- promise 17

    private static void breach() {
        sentence("promise 17", "The first HOUR in whose part 4 COVER of a CELL came to 0");
        CharcoalYard y = litOne(0);
        work(y, 9);
        due("in hour 8", y.breach(0, 0), 8);
        y.cover(0, 0, 2);
        work(y, 2);
        due("bare anew in hour 10", cell(y, 0, 0, 5), 0);
        due("the first one", y.breach(0, 0), 8);
        y.again(0, 1, 0);
        due("all an hour later, but for the cover by hand in hour 9", y.breach(0, 0), 10);
        breachNotYet();
        breachByHandIsNone();
        breachNoneSuch();
    }

    private static void breachNotYet() {
        sentence("promise 17", "NONE: it did not (yet)");
        CharcoalYard y = laid(1, 1, 0);
        due("ahead of light()", y.breach(0, 0), -1);
        y.hole(0, 0);
        y.open(0, true);
        y.light();
        work(y, 8);
        due("cover 1", cell(y, 0, 0, 5), 1);
        due("not yet", y.breach(0, 0), -1);
        y.hour(0, 0);
        due("now", y.breach(0, 0), 8);
        y.rake();
        due("behind rake()", y.breach(0, 0), -1);
    }

    private static void breachByHandIsNone() {
        sentence("promise 17", "in whose part 4");
        CharcoalYard y = litOne(0);
        y.cover(0, 0, 0);
        work(y, 6);
        due("bared by hand", y.breach(0, 0), -1);
        y.cover(0, 0, 1);
        y.hour(0, 0);
        due("covered by hand, it came to 0 in hour 6", y.breach(0, 0), 6);
    }

    private static void breachNoneSuch() {
        sentence("promise 17", "it did not (yet), no such CELL");
        CharcoalYard y = litOne(0);
        work(y, 9);
        int[][] none = {{1, 0}, {0, 1}, {-1, 0}, {0, -1}, {MIN, 0}, {0, MAX}, {MAX, MAX}, {MIN, MIN}};
        for (int[] n : none) {
            due("breach(" + n[0] + ", " + n[1] + ")", y.breach(n[0], n[1]), -1);
        }
        due("breach(0, 0)", y.breach(0, 0), 8);
    }

    // ---- promise 18

    private static void sign() {
        sentence("promise 18", "Four signs come behind THE TAPE, of v the highest byte first: how many it has");
        CharcoalYard y = new CharcoalYard();
        due("t>1&", y.sign('t' << 24 | '>' << 16 | '1' << 8 | '&'), 4);
        due("r=2:", y.sign('r' << 24 | '=' << 16 | '2' << 8 | ':'), 8);
        due("+7 and two more", y.sign('+' << 24 | '7' << 16 | 255), 12);
        due("end(10)", y.end(10), true);
        due("read as it was told", y.rule(), 0);
        due("a byte above 127 first", y.sign(0xFF733E31), 4);
        due("it is the first that can't stand there", y.rule(), -1);
        due("a byte above 127 last", y.sign(0x733E31FF), 4);
        due("it is the fourth", y.rule(), -4);
        due("bytes of 0", y.sign(0), 4);
        due("they are signs", y.rule(), -1);
        moreThanAHundred();
        refusedSignsLeaveTheTape();
    }

    private static void moreThanAHundred() {
        sentence("promise 18", "NONE: there would be more than 100");
        CharcoalYard y = new CharcoalYard();
        for (int i = 1; i <= 25; i++) {
            due("sign " + i, y.sign(-1), 4 * i);
        }
        due("of 100", y.sign(0), -1);
        due("100", y.count(10), 100);
        for (int n = 99; n >= 97; n--) {
            y.end(n);
            due("of " + n, y.sign(0), -1);
            due("as many as there were", y.count(10), n);
        }
        y.end(96);
        due("of 96", y.sign(0), 100);
    }

    private static void refusedSignsLeaveTheTape() {
        sentence("promise 18", "how many it has. NONE");
        CharcoalYard y = new CharcoalYard();
        write(y, "t>1:^" + "x".repeat(93));
        due("98 signs", y.count(10), 98);
        due("refused", y.sign(0), -1);
        due("end(5)", y.end(5), true);
        due("the first ones are as they were", y.rule(), 0);
    }

    // ---- promise 19

    private static void end() {
        sentence("promise 19", "THE TAPE has its first n signs alone: true");
        CharcoalYard y = new CharcoalYard();
        due("end(0) of an empty one", y.end(0), true);
        write(y, "t>1:+123");
        due("end(8) of 8", y.end(8), true);
        due("signs", y.count(10), 8);
        due("end(6)", y.end(6), true);
        due("signs", y.count(10), 6);
        due("'+1' is kept", y.rule(), 0);
        write(y, "t>1:^");
        due("end(0)", y.end(0), true);
        due("signs", y.count(10), 0);
        due("read as an empty one", y.rule(), -1);
        endTooMany();
        endBelowNought();
    }

    private static void endTooMany() {
        sentence("promise 19", "false if it has not so many");
        CharcoalYard y = new CharcoalYard();
        due("end(1) of an empty one", y.end(1), false);
        write(y, "t>1:^");
        due("end(6) of 5", y.end(6), false);
        due("end(100) of 5", y.end(100), false);
        due("end(101) of 5", y.end(101), false);
        due("the greatest n", y.end(MAX), false);
        due("signs", y.count(10), 5);
        y.end(3);
        due("what was cut off does not come back", y.end(5), false);
        due("it ends too early", y.rule(), -4);
    }

    private static void endBelowNought() {
        sentence("promise 19", "or n is below 0");
        CharcoalYard y = new CharcoalYard();
        due("end(-1) of an empty one", y.end(-1), false);
        write(y, "t>1:^");
        due("end(-1)", y.end(-1), false);
        due("the least n", y.end(MIN), false);
        due("signs", y.count(10), 5);
        due("as it was", y.rule(), 0);
    }

    // ---- promise 20

    private static void rule() {
        tapeIsEmptyThen();
        whileLitForHoursToCome();
        firstSignThatCannotStand();
        endsTooEarly();
        emptyTape();
        moreThanForty();
        refusedRuleLeavesNothing();
        eightAskedFirst();
    }

    private static void tapeIsEmptyThen() {
        sentence("promise 20", "THE TAPE, which is empty then, is a RULE more");
        CharcoalYard y = new CharcoalYard();
        due("a rule", tell(y, "t>1:^"), 0);
        due("empty", y.count(10), 0);
        due("none such", tell(y, "t>1:!"), -5);
        due("empty", y.count(10), 0);
        due("too early", tell(y, "t>1:"), -5);
        due("empty", y.count(10), 0);
        due("too long", tell(y, "t>1:^" + "x".repeat(95)), -6);
        due("empty", y.count(10), 0);
        for (int i = 1; i < 8; i++) {
            due("rule " + i, tell(y, "t>1:^"), i);
        }
        due("a ninth", tell(y, "t>1:^"), -100);
        due("empty", y.count(10), 0);
        due("from the first place on", y.sign(0), 4);
    }

    private static void whileLitForHoursToCome() {
        sentence("promise 20", "(also while LIT, for hours to come): its number");
        CharcoalYard y = laid(1, 1, 0);
        due("ahead of light()", tell(y, "t>99:^"), 0);
        y.light();
        y.hour(0, 0);
        due("while lit", tell(y, "t<99:^"), 1);
        due("not for the hour that was", y.told(0, 3), 0);
        due("cover is as it was", cell(y, 0, 0, 5), 5);
        y.hour(0, 0);
        due("for the hour to come", y.told(1, 3), 2);
        due("cover", cell(y, 0, 0, 5), 8);
    }

    private static void firstSignThatCannotStand() {
        sentence("promise 20", "-1 - p: it is none: p is the place of the first sign that can't stand there");
        String text = "t>1&r=23:+4";
        for (int at = 0; at < text.length(); at++) {
            String wrong = text.substring(0, at) + "?" + text.substring(at + 1);
            due(wrong, tell(new CharcoalYard(), wrong), -1 - at);
            String twoWrong = text.substring(0, at) + "??";
            due(twoWrong, tell(new CharcoalYard(), twoWrong), -1 - at);
        }
        String[] texts = {"tt", "t>>", "t>=1:^", "t>1&&", "t>1&:^", "t>1::", "t>1:&", "t>1:^&", "t>1:~~", "t>1:+-", "t>1:+1:",
            ":^", "1", "t1", "t>t"};
        int[] places = {1, 2, 2, 4, 4, 4, 4, 5, 5, 5, 6, 0, 0, 1, 2};
        for (int i = 0; i < texts.length; i++) {
            due(texts[i], tell(new CharcoalYard(), texts[i]), -1 - places[i]);
        }
    }

    private static void endsTooEarly() {
        sentence("promise 20", "(its end, if it ends too early");
        String text = "t>12&r=3:+";
        for (int n = 1; n <= text.length(); n++) {
            due(text.substring(0, n), tell(new CharcoalYard(), text.substring(0, n)), -1 - n);
        }
        String asks = "s>0&k>0&c>0&t>0&o>0&r>0&w>0&s>0&k>0";
        due("39 signs", tell(new CharcoalYard(), asks + "&c>0"), -40);
        due("40 signs, a colon last", tell(new CharcoalYard(), asks + "&c>0:"), -41);
        due("40 signs, a digit last", tell(new CharcoalYard(), asks + "&c>01"), -41);
        due("40 signs, & last", tell(new CharcoalYard(), asks + "&c>0&"), -41);
        due("40 signs, + last", tell(new CharcoalYard(), asks + "567:+"), -41);
    }

    private static void emptyTape() {
        sentence("promise 20", "its end, if it ends too early");
        CharcoalYard y = new CharcoalYard();
        due("nothing was told", y.rule(), -1);
        y.sign(0x743E313A);
        y.end(0);
        due("cut to nothing", y.rule(), -1);
        due("no rule", y.count(4), 0);
    }

    private static void moreThanForty() {
        sentence("promise 20", "40, if it has more and the first 40 could go on or end)");
        String asks = "s>0&k>0&c>0&t>0&o>0&r>0&w>0&s>0&k>0";
        due("40 signs are a rule", tell(new CharcoalYard(), asks + ":+123"), 0);
        due("could end: a digit more", tell(new CharcoalYard(), asks + ":+1234"), -41);
        due("could end: another sign more", tell(new CharcoalYard(), asks + ":+123?"), -41);
        due("could end: ^ and one more", tell(new CharcoalYard(), asks + "567:^^"), -41);
        due("could go on: the act is missing", tell(new CharcoalYard(), asks + "&c>0:^"), -41);
        due("could go on: a wrong act behind", tell(new CharcoalYard(), asks + "&c>0:?"), -41);
        due("could go on: a number is missing", tell(new CharcoalYard(), asks + "56:-0123"), -41);
        due("could go on: an ask behind", tell(new CharcoalYard(), asks + "&c>0&t>0:^"), -41);
        due("100 signs that could go on", tell(new CharcoalYard(), "t>12345&".repeat(13).substring(0, 100)), -41);
        due("a wrong one at 39", tell(new CharcoalYard(), asks + ":+12??"), -40);
        due("a sixth digit at 39", tell(new CharcoalYard(), asks + "2345666"), -40);
        due("a wrong one at 0, and 99 behind", tell(new CharcoalYard(), "?".repeat(100)), -1);
        due("ended at 5, and 95 behind", tell(new CharcoalYard(), "t>1:^" + "t".repeat(95)), -6);
    }

    private static void refusedRuleLeavesNothing() {
        sentence("promise 20", "-1 - p: it is none");
        CharcoalYard y = laid(1, 1, 0);
        tell(y, "t=0:^");
        due("refused", tell(y, "t=9&t=8&t=7:?"), -13);
        due("rules", y.count(4), 1);
        due("the next one", tell(y, "t=1:^"), 1);
        due("refused", tell(y, "t<9&"), -5);
        y.light();
        work(y, 3);
        int[] want = {1, 2, 0};
        for (int hour = 0; hour < 3; hour++) {
            due("told(" + hour + ", 3)", y.told(hour, 3), want[hour]);
        }
    }

    private static void eightAskedFirst() {
        sentence("promise 20", "-100: there are 8 (asked first)");
        CharcoalYard y = laid(1, 1, 0);
        for (int i = 0; i < 8; i++) {
            due("rule " + i, tell(y, "t=" + i + ":^"), i);
        }
        String[] texts = {"t>1:^", "", "?", "t>1", "?".repeat(100)};
        for (String text : texts) {
            due("'" + text + "'", tell(y, text), -100);
            due("rules", y.count(4), 8);
        }
        y.light();
        work(y, 8);
        due("the eighth is as it was", y.told(7, 3), 128);
        due("while lit", tell(y, "t>1:^"), -100);
    }

    // ---- promise 21

    private static void repeal() {
        sentence("promise 21", "There are no RULES: how many there were");
        CharcoalYard y = new CharcoalYard();
        due("none", y.repeal(), 0);
        for (int i = 0; i < 8; i++) {
            tell(y, "t<9:^");
        }
        due("eight", y.repeal(), 8);
        due("rules", y.count(4), 0);
        due("none is left", y.repeal(), 0);
        due("the next has the first number", tell(y, "t=1:^"), 0);
        y.lay(0, 0, 0);
        y.light();
        work(y, 2);
        due("the eight do not act", y.told(0, 3), 0);
        due("the new one does", y.told(1, 3), 1);
        repealWhileLit();
    }

    private static void repealWhileLit() {
        sentence("promise 21", "NONE: it is LIT");
        CharcoalYard y = laid(1, 1, 0);
        y.light();
        due("without rules", y.repeal(), -1);
        tell(y, "t<9:^");
        due("with one", y.repeal(), -1);
        due("rules", y.count(4), 1);
        y.hour(0, 0);
        due("it acts", y.told(0, 3), 1);
        y.rake();
        due("behind rake()", y.repeal(), 1);
    }

    // ---- promise 22

    private static void wood() {
        sentence("promise 22", "AGE 0 .. 200, LEAST age 1 .. 100 at which it may be cut, LOADS 1 .. 1000 that it gives: its number");
        CharcoalYard y = new CharcoalYard();
        int[][] good = {{0, 1, 1}, {200, 1, 1}, {0, 100, 1}, {0, 1, 1000}, {200, 100, 1000}};
        for (int i = 0; i < good.length; i++) {
            due("wood " + i, y.wood(good[i][0], good[i][1], good[i][2]), i);
            for (int what = 0; what < 3; what++) {
                due("stand(" + i + ", " + what + ")", stand(y, i, what), good[i][what]);
            }
        }
        woodOthers();
        twelveWoods();
    }

    private static void woodOthers() {
        sentence("promise 22", "NONE: others");
        CharcoalYard y = new CharcoalYard();
        int[][] others = {{-1, 1, 1}, {201, 1, 1}, {MIN, 1, 1}, {MAX, 1, 1}, {0, 0, 1}, {0, -1, 1}, {0, 101, 1}, {0, MIN, 1}, {0, MAX, 1},
            {0, 1, 0}, {0, 1, -1}, {0, 1, 1001}, {0, 1, MIN}, {0, 1, MAX}};
        for (int[] o : others) {
            due("wood(" + o[0] + ", " + o[1] + ", " + o[2] + ")", y.wood(o[0], o[1], o[2]), -1);
        }
        due("woods", y.count(9), 0);
        due("stand(0, 0)", stand(y, 0, 0), THROWN);
    }

    private static void twelveWoods() {
        sentence("promise 22", "NONE: others, or 12");
        CharcoalYard y = new CharcoalYard();
        for (int i = 0; i < 12; i++) {
            due("wood " + i, y.wood(i, 1, 1), i);
        }
        due("a thirteenth", y.wood(1, 1, 1), -1);
        due("woods", y.count(9), 12);
        due("stand(11, 0)", stand(y, 11, 0), 11);
        due("stand(12, 0)", stand(y, 12, 0), THROWN);
        due("years(5) of twelve", y.years(5), true);
        due("the last one's age", stand(y, 11, 0), 16);
        due("cut(11)", y.cut(11), 1);
    }

    // ---- promise 23

    private static void years() {
        sentence("promise 23", "So many years go (0 .. 200)");
        CharcoalYard y = new CharcoalYard();
        due("no woods", y.years(200), true);
        y.wood(5, 1, 1);
        due("years(0)", y.years(0), true);
        due("age", stand(y, 0, 0), 5);
        due("years(1)", y.years(1), true);
        due("age", stand(y, 0, 0), 6);
        due("years(200)", y.years(200), true);
        due("age", stand(y, 0, 0), 206);
        int[] others = {-1, 201, MIN, MAX};
        for (int n : others) {
            due("years(" + n + ")", y.years(n), false);
        }
        due("age", stand(y, 0, 0), 206);
        ageAtMost();
    }

    private static void ageAtMost() {
        sentence("promise 23", "AGES are that much more, at most 10000: true");
        CharcoalYard y = new CharcoalYard();
        y.wood(0, 1, 1);
        y.wood(100, 1, 1);
        for (int i = 0; i < 49; i++) {
            y.years(200);
        }
        due("9800", stand(y, 0, 0), 9800);
        due("9900", stand(y, 1, 0), 9900);
        due("years(200)", y.years(200), true);
        due("10000", stand(y, 0, 0), 10000);
        due("not 10100", stand(y, 1, 0), 10000);
        due("years(1)", y.years(1), true);
        due("at most", stand(y, 0, 0), 10000);
        due("it may be cut", y.cut(0), 1);
        due("age 0", stand(y, 0, 0), 0);
    }

    // ---- promise 24

    private static void cut() {
        sentence("promise 24", "A WOOD is cut: its LOADS; AGE 0 then");
        CharcoalYard y = new CharcoalYard();
        y.wood(10, 10, 7);
        y.wood(10, 10, 9);
        due("cut(1)", y.cut(1), 9);
        due("age 0", stand(y, 1, 0), 0);
        due("least as it was", stand(y, 1, 1), 10);
        due("loads as they were", stand(y, 1, 2), 9);
        due("the other's age", stand(y, 0, 0), 10);
        cutNoneSuch();
        cutBelowLeast();
    }

    private static void cutNoneSuch() {
        sentence("promise 24", "NONE: no such WOOD");
        CharcoalYard y = new CharcoalYard();
        due("no woods", y.cut(0), -1);
        y.wood(10, 1, 7);
        int[] none = {-1, 1, 11, 12, MIN, MAX};
        for (int wood : none) {
            due("cut(" + wood + ")", y.cut(wood), -1);
        }
        due("age as it was", stand(y, 0, 0), 10);
    }

    private static void cutBelowLeast() {
        sentence("promise 24", "or below its LEAST age");
        CharcoalYard y = new CharcoalYard();
        y.wood(98, 100, 7);
        due("98 of 100", y.cut(0), -1);
        y.years(1);
        due("99 of 100", y.cut(0), -1);
        due("age as it was", stand(y, 0, 0), 99);
        y.years(1);
        due("100 of 100", y.cut(0), 7);
        due("0 of 100", y.cut(0), -1);
        y.wood(0, 1, 3);
        due("0 of 1", y.cut(1), -1);
    }

    // ---- promise 25

    private static CharcoalYard woods(int... loads) {
        CharcoalYard y = new CharcoalYard();
        for (int l : loads) {
            y.wood(10, 10, l);
        }
        return y;
    }

    private static void plan() {
        fewest();
        leastOfAsMany();
        leastNumberOfEqualOnes();
        thoseThatMayBeCut();
        allTogetherDoNot();
        anotherWant();
        planOfTwelve();
    }

    private static void fewest() {
        sentence("promise 25", "of the fewest that give want LOADS (1 .. 20000) together");
        CharcoalYard y = woods(5, 5, 5, 100);
        due("one of 100, not three of 15", y.plan(15), 0b1000);
        due("one", y.plan(100), 0b1000);
        due("two", y.plan(101), 0b1001);
        due("two", y.plan(105), 0b1001);
        due("three", y.plan(106), 0b1011);
        due("all", y.plan(115), 0b1111);
        due("one load", y.plan(1), 0b0001);
    }

    private static void leastOfAsMany() {
        sentence("promise 25", "of as many the one that gives least");
        CharcoalYard y = woods(9, 8, 7, 6);
        due("7", y.plan(7), 0b0100);
        due("8", y.plan(8), 0b0010);
        due("9", y.plan(9), 0b0001);
        due("13 by 7 and 6", y.plan(10), 0b1100);
        due("14 by 8 and 6", y.plan(14), 0b1010);
        due("16 by 9 and 7", y.plan(16), 0b0101);
        due("17 by 9 and 8", y.plan(17), 0b0011);
    }

    private static void leastNumberOfEqualOnes() {
        sentence("promise 25", "of equal ones the least number as bits: as bits, WOOD 0 the lowest");
        due("of three equal ones", woods(3, 3, 3).plan(3), 0b001);
        due("two of three", woods(3, 3, 3).plan(4), 0b011);
        due("15 by 7 and 8, not by 6 and 9", woods(6, 7, 8, 9).plan(15), 0b0110);
        due("15 by 6 and 9, not by 7 and 8", woods(6, 9, 7, 8).plan(15), 0b0011);
        due("15 by 8 and 7", woods(9, 8, 7, 6).plan(15), 0b0110);
    }

    private static void thoseThatMayBeCut() {
        sentence("promise 25", "The set of WOODS that may be cut");
        CharcoalYard y = new CharcoalYard();
        y.wood(9, 10, 50);
        y.wood(10, 10, 60);
        y.wood(200, 1, 70);
        due("not the one of age 9", y.plan(50), 0b010);
        due("both that may be cut", y.plan(130), 0b110);
        due("more than they give", y.plan(131), -3);
        y.years(1);
        due("age 10", y.plan(50), 0b001);
        due("all three", y.plan(180), 0b111);
        due("a plan cuts none", stand(y, 0, 0), 10);
        y.cut(0);
        due("it was cut", y.plan(50), 0b010);
    }

    private static void allTogetherDoNot() {
        sentence("promise 25", "-3: all together do not");
        due("no woods", new CharcoalYard().plan(1), -3);
        CharcoalYard y = woods(3, 4);
        due("7", y.plan(7), 0b11);
        due("8", y.plan(8), -3);
        due("20000", y.plan(20000), -3);
        CharcoalYard young = new CharcoalYard();
        young.wood(0, 1, 1000);
        due("none may be cut", young.plan(1), -3);
    }

    private static void anotherWant() {
        sentence("promise 25", "NONE: another want");
        CharcoalYard y = woods(1000);
        int[] others = {0, -1, 20001, MIN, MAX};
        for (int want : others) {
            due("plan(" + want + ")", y.plan(want), -1);
        }
        due("no woods, plan(0)", new CharcoalYard().plan(0), -1);
        due("no woods, plan(20001)", new CharcoalYard().plan(20001), -1);
        due("plan(1)", y.plan(1), 1);
        due("plan(20000)", y.plan(20000), -3);
    }

    private static void planOfTwelve() {
        sentence("promise 25", "as bits, WOOD 0 the lowest");
        CharcoalYard y = woods(1, 2, 4, 8, 16, 32, 64, 128, 256, 512, 1000, 1000);
        due("the last two", y.plan(2000), 0b110000000000);
        due("1000, the lower one", y.plan(1000), 0b010000000000);
        due("all", y.plan(3023), 0b111111111111);
        due("but for WOOD 0", y.plan(3022), 0b111111111110);
        due("more", y.plan(3024), -3);
        due("513 by one of 1000", y.plan(513), 0b010000000000);
        due("512", y.plan(512), 0b001000000000);
    }

    // ---- promise 26

    private static void standOf() {
        sentence("promise 26", "what 0: AGE, 1: LEAST, 2: LOADS, 3: years until it may be cut");
        CharcoalYard y = new CharcoalYard();
        y.wood(0, 100, 1000);
        y.wood(99, 100, 1);
        y.wood(100, 100, 1);
        y.wood(101, 100, 1);
        int[] left = {100, 1, 0, 0};
        for (int wood = 0; wood < 4; wood++) {
            due("years until wood " + wood + " may be cut", stand(y, wood, 3), left[wood]);
        }
        due("stand(0, 0)", stand(y, 0, 0), 0);
        due("stand(0, 1)", stand(y, 0, 1), 100);
        due("stand(0, 2)", stand(y, 0, 2), 1000);
        y.cut(3);
        due("cut", stand(y, 3, 3), 100);
        standNoneSuch();
    }

    private static void standNoneSuch() {
        sentence("promise 26", "NoSuchElementException: none such");
        CharcoalYard y = new CharcoalYard();
        for (int what = -1; what < 5; what++) {
            due("no woods, what " + what, stand(y, 0, what), THROWN);
        }
        y.wood(1, 2, 3);
        int[][] none = {{-1, 0}, {1, 0}, {11, 3}, {12, 3}, {MIN, 0}, {MAX, 0}, {0, -1}, {0, 4}, {0, MIN}, {0, MAX}};
        for (int[] n : none) {
            due("stand(" + n[0] + ", " + n[1] + ")", stand(y, n[0], n[1]), THROWN);
        }
        due("stand(0, 3)", stand(y, 0, 3), 1);
    }
}
