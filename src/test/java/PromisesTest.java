/** Each promise of the document by hand: ordinary inputs, the edges that it names, wrong inputs. */
public final class PromisesTest extends YardTest {
    public static void main(String[] args) {
        newObject();
        clamps();
        laying();
        rows();
        holes();
        lighting();
        opening();
        covering();
        watching();
        hours();
        airOfAnHour();
        burning();
        catching();
        sinkingAndRain();
        workedAgain();
        raking();
        counting();
        cells();
        sums();
        telling();
        breaches();
        tapes();
        ruleTexts();
        rulesAtWork();
        rulesInTime();
        repealing();
        woods();
        years();
        cuts();
        plans();
        stands();
        close();
    }

    /** Wood, coal, wet, heat and fire of a cell at once. */
    private static void dueCell(int promise, String when, CharcoalYard y, int[] at, int... want) {
        for (int what = 0; what < want.length; what++) {
            due(promise, when + ": cell(" + at[0] + ", " + at[1] + ", " + what + ")", cell(y, at[0], at[1], what), want[what]);
        }
    }

    private static int[] at(int ring, int height) {
        return new int[] {ring, height};
    }

    private static void newObject() {
        CharcoalYard y = new CharcoalYard();
        int[] want = {1, 1, 0, 0, 0, 0, 0, 0, 0, 0, 0, 0};
        for (int what = 0; what < want.length; what++) {
            due(1, "count(" + what + ")", y.count(what), want[what]);
        }
        dueCell(1, "new", y, at(0, 0), 0, 0, 0, 0, 0, 5, 0, 0, 0);
        due(1, "cell(1, 0, 0)", cell(y, 1, 0, 0), THROWN);
        due(1, "light()", y.light(), false);
        due(1, "NONE", CharcoalYard.NONE, -1);
    }

    private static void clamps() {
        CharcoalYard y = litOne(0);
        tell(y, "s>0:-0");
        y.wood(1, 1, 1);
        write(y, "abc");
        y.cover(0, 0, 2);
        work(y, 2);
        int[][] refused = {{0, 1}, {1, 0}, {9, 1}, {1, 9}, {-1, 3}, {MIN, MAX}};
        for (int[] r : refused) {
            due(2, "clamp(" + r[0] + ", " + r[1] + ")", y.clamp(r[0], r[1]), false);
        }
        due(2, "refused: still lit", y.count(6), 1);
        due(2, "refused: hours", y.count(5), 2);
        due(2, "clamp(8, 8)", y.clamp(8, 8), true);
        int[] want = {8, 8, 0, 0, 1, 0, 0, 0, 0, 1, 3, 0};
        for (int what = 0; what < want.length; what++) {
            due(2, "count(" + what + ") behind clamp", y.count(what), want[what]);
        }
        for (int what = 0; what < 5; what++) {
            due(2, "all(" + what + ") behind clamp", y.all(what), 0);
        }
        dueCell(2, "behind clamp", y, at(7, 7), 0, 0, 0, 0, 0, 5, 0, 0, 0);
        dueCell(2, "behind clamp", y, at(0, 0), 0, 0, 0, 0, 0, -1, 0, 0, 0);
        due(2, "told(0, 0) behind clamp", y.told(0, 0), -1);
        clampOfTheSameSize();
        watchedStaysBehindClamp();
    }

    private static void clampOfTheSameSize() {
        CharcoalYard y = laid(2, 2, 3);
        y.cover(1, 1, 0);
        due(2, "clamp(2, 2)", y.clamp(2, 2), true);
        dueCell(2, "the same size anew", y, at(1, 1), 0, 0, 0, 0, 0, 5, 0, 0, 0);
        due(2, "clamp(1, 8)", y.clamp(1, 8), true);
        due(2, "heights", y.count(1), 8);
    }

    private static void watchedStaysBehindClamp() {
        CharcoalYard y = new CharcoalYard();
        y.watch(0);
        tell(y, "s=9999:^");
        y.clamp(1, 1);
        y.lay(0, 0, 0);
        y.light();
        y.hour(0, 0);
        due(2, "watched stays: told(0, 3)", y.told(0, 3), 1);
    }

    private static void laying() {
        CharcoalYard y = new CharcoalYard();
        y.clamp(3, 2);
        int[] damp = {20, 20, 60, 60};
        for (int kind = 0; kind < 4; kind++) {
            due(3, "lay(2, 1, " + kind + ")", y.lay(2, 1, kind), 500);
            dueCell(3, "laid", y, at(2, 1), 500, 0, damp[kind] * 5, 0, 0, 5, 0, 500, kind);
        }
        due(3, "lay(0, 0, 0)", y.lay(0, 0, 0), 100);
        due(3, "lay(1, 0, 1)", y.lay(1, 0, 1), 300);
        int[][] refused = {{3, 0, 0}, {0, 2, 0}, {-1, 0, 0}, {0, -1, 0}, {0, 0, 4}, {0, 0, -1}, {MAX, 0, 0}, {0, MIN, 0}};
        for (int[] r : refused) {
            due(3, "lay(" + r[0] + ", " + r[1] + ", " + r[2] + ")", y.lay(r[0], r[1], r[2]), -1);
        }
        y.light();
        due(3, "lay while lit", y.lay(1, 0, 0), -1);
        due(3, "kind is as it was", cell(y, 1, 0, 8), 1);
    }

    private static void rows() {
        CharcoalYard y = new CharcoalYard();
        y.clamp(4, 2);
        due(4, "all rings", y.layRow(1, 2, 20, 0, 1), 4);
        for (int ring = 0; ring < 4; ring++) {
            due(4, "kind of ring " + ring, cell(y, ring, 1, 8), ring);
            due(4, "wood of ring " + ring, cell(y, ring, 1, 0), 100 * (2 * ring + 1));
            due(4, "the other height", cell(y, ring, 0, 7), 0);
        }
        due(4, "the row's end", y.layRow(0, 2, 2, 3, 0), 2);
        due(4, "not laid", cell(y, 2, 0, 7), 0);
        due(4, "an entry that is no kind", y.layRow(0, 2, 4, 2, 1), 2);
        due(4, "a kind of -1", y.layRow(0, 2, 4, 1, -1), 2);
        due(4, "bytes", y.layRow(0, 0, 4, 256, 255), 1);
        due(4, "bytes with a sign", y.layRow(0, 0, 4, 128, 0), 0);
        due(4, "bytes by 257", y.layRow(0, 0, 4, 0, 257), 4);
        due(4, "shorts of 257", y.layRow(0, 1, 4, 0, 257), 1);
        due(4, "shorts by 65537", y.layRow(0, 1, 4, 0, 65537), 4);
        due(4, "ints of 65537", y.layRow(0, 2, 4, 0, 65537), 1);
        due(4, "ints wrap", y.layRow(0, 2, 3, 0, MIN), 1);
        due(4, "bytes of a wrap", y.layRow(0, 0, 4, MAX - 255, 256), 4);
        due(4, "no entry", y.layRow(0, 2, 0, 0, 0), 0);
        due(4, "a clamp of one cell", new CharcoalYard().layRow(0, 0, 3, 1, 1), 1);
        rowsRefused(y);
    }

    private static void rowsRefused(CharcoalYard y) {
        due(4, "n -1", y.layRow(0, 0, -1, 0, 0), -2);
        due(4, "n least", y.layRow(0, 2, MIN, 0, 0), -2);
        due(4, "missing row", y.layRow(0, 3, 5, 0, 0), 0);
        due(4, "missing row, n -1", y.layRow(0, 3, -1, 0, 0), 0);
        due(4, "n 20", y.layRow(0, 2, 20, 0, 0), 4);
        due(4, "n 21", y.layRow(0, 2, 21, 0, 0), -1);
        due(4, "missing row, n 21", y.layRow(0, 3, 21, 0, 0), -1);
        due(4, "kind 4", y.layRow(0, 4, 1, 0, 0), -1);
        due(4, "kind -1 ahead of n -1", y.layRow(0, -1, -1, 0, 0), -1);
        due(4, "height 2 ahead of n -1", y.layRow(2, 2, -1, 0, 0), -1);
        due(4, "height -1", y.layRow(-1, 2, 1, 0, 0), -1);
        y.light();
        due(4, "lit", y.layRow(0, 2, 1, 0, 0), -1);
        due(4, "lit ahead of n -1", y.layRow(0, 2, -1, 0, 0), -1);
        due(4, "lit, missing row", y.layRow(0, 3, 1, 0, 0), -1);
    }

    private static void holes() {
        CharcoalYard y = laid(3, 3, 0);
        int[][] inside = {{0, 0}, {1, 1}, {0, 1}, {1, 0}, {3, 0}, {0, 3}, {-1, 2}, {2, -1}, {MAX, MAX}};
        for (int[] r : inside) {
            due(5, "hole(" + r[0] + ", " + r[1] + ")", y.hole(r[0], r[1]), -1);
        }
        due(5, "the last ring", y.hole(2, 0), 0);
        due(5, "it is shut", y.count(3), 0);
        due(5, "the last height", y.hole(0, 2), 1);
        due(5, "both", y.hole(2, 2), 2);
        for (int i = 3; i < 12; i++) {
            due(5, "the same cell once more", y.hole(2, 2), i);
        }
        due(5, "a thirteenth", y.hole(2, 2), -1);
        due(5, "holes", y.count(2), 12);
        y.clamp(1, 1);
        y.lay(0, 0, 0);
        y.light();
        due(5, "while lit", y.hole(0, 0), -1);
        y.rake();
        due(5, "raked", y.hole(0, 0), 0);
        y.open(0, true);
        y.clamp(1, 1);
        y.hole(0, 0);
        due(5, "shut, though the one ahead was open", y.count(3), 0);
    }

    private static void lighting() {
        CharcoalYard y = new CharcoalYard();
        y.clamp(2, 2);
        y.lay(1, 1, 0);
        due(6, "no wood in the middle", y.light(), false);
        due(6, "not lit", y.count(6), 0);
        y.lay(0, 0, 2);
        due(6, "light()", y.light(), true);
        due(6, "lit", y.count(6), 1);
        due(6, "fires", y.count(7), 1);
        dueCell(6, "the middle on the ground", y, at(0, 0), 100, 0, 60, 500, 1);
        dueCell(6, "another", y, at(1, 1), 300, 0, 60, 0, 0);
        due(6, "light() again", y.light(), false);
        due(6, "hour of now", y.count(5), 0);
    }

    private static void opening() {
        CharcoalYard y = laid(1, 1, 0);
        y.hole(0, 0);
        y.hole(0, 0);
        int[] none = {-1, 2, 12, MIN, MAX};
        for (int hole : none) {
            due(7, "open(" + hole + ")", y.open(hole, true), false);
        }
        due(7, "ahead of light", y.open(1, true), true);
        due(7, "open ones", y.count(3), 1);
        due(7, "not by hand", y.count(8), 0);
        y.light();
        due(7, "open stays", y.count(3), 1);
        due(7, "shut", y.open(1, false), true);
        due(7, "shut again", y.open(1, false), true);
        due(7, "none such", y.open(2, false), false);
        due(7, "kept", y.count(8), 2);
        for (int i = 2; i < 100; i++) {
            due(7, "act " + i, y.open(0, i % 2 == 0), true);
        }
        due(7, "100 are kept", y.open(0, true), false);
        due(7, "100 are kept: cover", y.cover(0, 0, 1), false);
        due(7, "acts", y.count(8), 100);
        due(7, "hole 0 is shut still", y.count(3), 0);
        due(7, "cover is as it was", cell(y, 0, 0, 5), 5);
        y.rake();
        due(7, "raked: forgotten", y.open(0, true), true);
    }

    private static void covering() {
        CharcoalYard y = laid(2, 3, 0);
        int[][] refused = {{0, 0, 1}, {0, 1, 1}, {2, 0, 1}, {0, 3, 1}, {-1, 2, 1}, {1, 0, 10}, {1, 0, -1}, {1, MIN, 1}, {1, 0, MAX}};
        for (int[] r : refused) {
            due(8, "cover(" + r[0] + ", " + r[1] + ", " + r[2] + ")", y.cover(r[0], r[1], r[2]), false);
        }
        due(8, "the last ring, 0", y.cover(1, 0, 0), true);
        due(8, "the last height, 9", y.cover(0, 2, 9), true);
        due(8, "cover 0", cell(y, 1, 0, 5), 0);
        due(8, "cover 9", cell(y, 0, 2, 5), 9);
        due(8, "inside", cell(y, 0, 0, 5), -1);
        due(8, "not by hand", y.count(8), 0);
        y.light();
        due(8, "while lit", y.cover(1, 0, 4), true);
        due(8, "refused while lit", y.cover(0, 0, 4), false);
        due(8, "kept", y.count(8), 1);
        due(8, "cover 4", cell(y, 1, 0, 5), 4);
    }

    private static void watching() {
        CharcoalYard y = laid(1, 1, 0);
        tell(y, "s=9999&k=99&c=0:+0");
        tell(y, "s=0&k=0&c=5:+0");
        due(9, "watch", y.watch(1 << 1 | 1 << 23 | 1 << 24), true);
        y.light();
        due(9, "while lit", y.watch(-1), false);
        work(y, 49);
        int[] hours = {0, 1, 2, 22, 23, 24, 25, 47, 48};
        for (int hour : hours) {
            boolean seen = hour % 24 == 1 || hour % 24 == 23;
            due(9, "told(" + hour + ", 3)", y.told(hour, 3), seen ? 2 : 1);
        }
        CharcoalYard fresh = laid(1, 1, 0);
        tell(fresh, "c=5:+0");
        fresh.light();
        work(fresh, 25);
        due(9, "at first all", fresh.told(24, 3), 1);
    }

    private static void hours() {
        CharcoalYard y = laid(1, 1, 0);
        due(10, "not lit", y.hour(0, 0), -1);
        y.light();
        int[][] refused = {{-1, 0}, {10, 0}, {0, -1}, {0, 4}, {MIN, 0}, {0, MAX}};
        for (int[] r : refused) {
            due(10, "hour(" + r[0] + ", " + r[1] + ")", y.hour(r[0], r[1]), -1);
        }
        due(10, "hours", y.count(5), 0);
        for (int i = 0; i < 300; i++) {
            due(10, "hour " + i, y.hour(9, 3), 0);
        }
        due(10, "hours", y.count(5), 300);
        due(10, "300 were", y.hour(0, 0), -1);
        due(10, "hours still", y.count(5), 300);
        due(10, "told(299, 0)", y.told(299, 0), 9);
        due(10, "again(299, 0, 0)", y.again(299, 0, 0), 0);
        due(10, "hours behind again", y.count(5), 300);
    }

    private static void airOfAnHour() {
        CharcoalYard y = laid(8, 8, 0);
        y.hole(7, 2);
        y.open(0, true);
        y.hole(7, 0);
        y.light();
        due(14, "air ahead of any hour", cell(y, 7, 2, 6), 0);
        y.hour(0, 3);
        for (int ring = 0; ring < 8; ring++) {
            for (int height = 0; height < 8; height++) {
                int air = Math.max(0, 7 - (7 - ring) - Math.abs(height - 2));
                due(10, "air of one hole at " + ring + ", " + height, cell(y, ring, height, 6), air);
            }
        }
        y.cover(0, 7, 0);
        y.hour(0, 0);
        due(10, "air of the breach", cell(y, 0, 7, 6), 4);
        due(10, "air by the breach", cell(y, 2, 6, 6), 1);
        due(10, "air far off", cell(y, 2, 5, 6), 0);
        due(10, "air of the hole", cell(y, 6, 1, 6), 2);
        y.open(0, false);
        y.cover(0, 7, 1);
        y.hour(0, 3);
        due(10, "no air", cell(y, 7, 2, 6) + cell(y, 0, 7, 6), 0);
        airOfOneRow();
    }

    private static void airOfOneRow() {
        CharcoalYard high = laid(1, 8, 0);
        high.hole(0, 0);
        high.open(0, true);
        high.light();
        high.hour(0, 1);
        CharcoalYard wide = laid(8, 1, 0);
        wide.hole(0, 0);
        wide.open(0, true);
        wide.light();
        wide.hour(0, 1);
        for (int i = 0; i < 8; i++) {
            due(10, "air up to height " + i, cell(high, 0, i, 6), Math.max(0, 5 - i));
            due(10, "air out to ring " + i, cell(wide, i, 0, 6), Math.max(0, 5 - i));
        }
    }

    private static void burning() {
        int[] rate = {4, 6, 4, 2};
        int[] coalByAirThree = {3, 3, 3, 1};
        for (int kind = 0; kind < 4; kind++) {
            CharcoalYard y = laid(2, 1, kind);
            y.hole(1, 0);
            y.open(0, true);
            y.light();
            int wetHours = kind < 2 ? 1 : 2;
            for (int i = 0; i < wetHours; i++) {
                due(10, "a wet hour of kind " + kind, y.hour(0, 0), 0);
            }
            dueCell(10, "dried, kind " + kind, y, at(0, 0), 100, 0, 0, 500, 1);
            int gone = rate[kind] * 3;
            int coal = coalByAirThree[kind];
            due(10, "smoke of kind " + kind, y.hour(0, 0), gone - coal);
            dueCell(10, "burnt, kind " + kind, y, at(0, 0), 100 - gone, coal, 0, 620, 1);
            due(10, "no ash with air 3", y.all(4), 0);
        }
        CharcoalYard y = litOne(2);
        y.hour(0, 3);
        dueCell(10, "60 less by 10 * 7", y, at(0, 0), 100, 0, 0, 500, 1);
        due(10, "air 6: 24 gone, 6 coal", y.hour(0, 2), 18);
        dueCell(10, "15 ash wanted, 6 there", y, at(0, 0), 76, 0, 0, 740, 1);
        due(10, "ash", y.all(4), 6);
        burningDown();
        smokeOfAllWood();
        aLittleWet();
        coolingDown();
        ashOfOldCoal();
    }

    /**
     * What is cut from each hour's coal is smoke: ring 2 burns with air 5. The dry kinds come to it with airs 2 and 3,
     * since ring 1 would be ash before ring 2 has fire; the damp ones with airs 3 and 4.
     */
    private static void smokeOfAllWood() {
        int[] smoke = {75 + 225 + 375, 84 + 239 + 390, 75 + 225 + 375, 83 + 225 + 380};
        for (int kind = 0; kind < 4; kind++) {
            CharcoalYard y = laid(3, 1, kind);
            y.hole(2, 0);
            y.open(0, true);
            for (int ring = 0; ring < 3; ring++) {
                y.cover(ring, 0, 9);
            }
            y.light();
            for (int i = 0; i < 60; i++) {
                y.hour(0, kind > 1 || cell(y, 2, 0, 4) == 1 ? 1 : 0);
            }
            due(10, "all wood of kind " + kind + " is burnt", y.all(1), 0);
            due(10, "smoke of all wood of kind " + kind, y.all(3), smoke[kind]);
        }
    }

    private static void aLittleWet() {
        CharcoalYard y = litOne(0);
        y.hour(1, 0);
        due(10, "wet 1", cell(y, 0, 0, 2), 1);
        due(10, "an hour to dry it", y.hour(0, 0), 0);
        due(10, "dry", y.hour(0, 0), 12);
    }

    private static void burningDown() {
        CharcoalYard y = litOne(0);
        work(y, 1 + 6);
        dueCell(10, "six hours", y, at(0, 0), 4, 0, 0, 1000, 1);
        due(10, "the last wood", y.hour(0, 0), 3);
        dueCell(10, "burnt down", y, at(0, 0), 0, 0, 0, 1000, 0);
        due(10, "nothing burns", y.hour(0, 0), 0);
        dueCell(10, "without wood no fire", y, at(0, 0), 0, 0, 0, 1000, 0);
    }

    private static void coolingDown() {
        CharcoalYard y = laid(1, 1, 0);
        y.light();
        work(y, 9);
        dueCell(10, "nine hours without air", y, at(0, 0), 100, 0, 20, 50, 1);
        y.hour(0, 0);
        dueCell(10, "ten hours without air", y, at(0, 0), 100, 0, 20, 0, 0);
        due(10, "no fire", y.count(7), 0);
    }

    private static void ashOfOldCoal() {
        CharcoalYard y = laid(2, 1, 0);
        y.hole(1, 0);
        y.open(0, true);
        y.light();
        work(y, 1 + 4);
        dueCell(10, "coal of four hours", y, at(0, 0), 52, 12, 0, 980, 1);
        due(10, "air 5: 20 gone, 5 coal", y.hour(0, 2), 15);
        dueCell(10, "5 * 1 * 2 are ash", y, at(0, 0), 32, 7, 0, 1000, 1);
        due(10, "ash", y.all(4), 10);
    }

    private static void catching() {
        CharcoalYard y = laid(2, 2, 0);
        y.light();
        int[] middle = {500, 450, 400, 350, 300, 250, 200, 150, 100, 50};
        int heat = 0;
        for (int i = 0; i < 10; i++) {
            y.hour(0, 0);
            heat += middle[i] / 20;
            due(10, "heat beside", cell(y, 1, 0, 3), heat);
            due(10, "heat above", cell(y, 0, 1, 3), heat);
            due(10, "heat across", cell(y, 1, 1, 3), 0);
        }
        y.hour(0, 0);
        due(10, "no fire, no heat more", cell(y, 1, 0, 3), heat);
        catchingAtThreeHundred();
        emptyCellsStayCold();
        heatOfExactlyThreeHundred();
        heatGoesInwardsAndDown();
    }

    /** Rain keeps the fire wet, so its heat stays 500 and 25 go over each hour. */
    private static void heatOfExactlyThreeHundred() {
        CharcoalYard y = laid(2, 1, 2);
        y.hole(1, 0);
        y.open(0, true);
        y.light();
        for (int i = 0; i < 11; i++) {
            y.hour(9, 0);
        }
        dueCell(10, "275", y, at(1, 0), 300, 0, 300, 275, 0);
        y.hour(9, 0);
        dueCell(10, "300", y, at(1, 0), 300, 0, 300, 300, 1);
    }

    private static void heatGoesInwardsAndDown() {
        int[][] inwards = {{0, 0}, {1, 0}, {1, 1}, {1, 2}, {0, 2}};
        int[][] down = {{0, 0}, {0, 1}, {1, 1}, {2, 1}, {2, 0}};
        for (int[][] way : new int[][][] {inwards, down}) {
            CharcoalYard y = new CharcoalYard();
            y.clamp(3, 3);
            for (int[] c : way) {
                y.lay(c[0], c[1], 0);
                y.cover(c[0], c[1], 9);
            }
            for (int i = 0; i < 3; i++) {
                y.hole(2, i);
                y.open(i, true);
            }
            y.light();
            work(y, 60);
            due(10, "heat of the last on the way", cell(y, way[4][0], way[4][1], 3) > 0, true);
        }
    }

    private static void catchingAtThreeHundred() {
        CharcoalYard y = laid(3, 1, 0);
        y.hole(2, 0);
        y.open(0, true);
        y.light();
        int[] heats = {25, 50, 79, 112, 149, 190, 235, 284, 334};
        for (int i = 0; i < heats.length; i++) {
            y.hour(0, 0);
            due(10, "ring 1 in hour " + i, cell(y, 1, 0, 3), heats[i]);
            due(10, "fire of ring 1 in hour " + i, cell(y, 1, 0, 4), heats[i] >= 300 ? 1 : 0);
        }
        due(10, "ring 2 is cold yet", cell(y, 2, 0, 3), 0);
        y.hour(0, 0);
        due(10, "ring 2 by the heat ahead", cell(y, 2, 0, 3), 334 / 20);
    }

    private static void emptyCellsStayCold() {
        CharcoalYard y = new CharcoalYard();
        y.clamp(2, 1);
        y.lay(0, 0, 0);
        y.light();
        work(y, 5);
        dueCell(10, "an empty cell", y, at(1, 0), 0, 0, 0, 0, 0);
    }

    private static void sinkingAndRain() {
        CharcoalYard y = laid(3, 2, 0);
        y.light();
        y.hour(4, 0);
        due(10, "rain on ring 0", cell(y, 0, 1, 2), 24);
        due(10, "rain on ring 2", cell(y, 2, 1, 2), 120);
        due(10, "no rain on the ground", cell(y, 2, 0, 2), 100);
        for (int i = 0; i < 10; i++) {
            y.hour(9, 0);
        }
        due(10, "at most 100 * share", cell(y, 0, 1, 2), 100);
        due(10, "at most 100 * share", cell(y, 2, 1, 2), 500);
        CharcoalYard one = litOne(0);
        work(one, 1 + 3);
        dueCell(10, "52 of 100", one, at(0, 0), 52, 0, 0, 980, 1, 5);
        one.hour(0, 0);
        dueCell(10, "36 of 100", one, at(0, 0), 36, 0, 0, 1000, 1, 4);
        work(one, 3);
        due(10, "sinks each hour", cell(one, 0, 0, 5), 1);
        work(one, 3);
        due(10, "not below 0", cell(one, 0, 0, 5), 0);
        sinkingCountsCoalTwice();
    }

    private static void sinkingCountsCoalTwice() {
        CharcoalYard y = laid(2, 1, 0);
        y.cover(0, 0, 0);
        y.cover(1, 0, 9);
        y.hole(1, 0);
        y.open(0, true);
        y.light();
        work(y, 1);
        y.cover(0, 0, 5);
        work(y, 7);
        dueCell(10, "16 wood and 21 coal", y, at(0, 0), 16, 21, 0, 1000, 1, 5);
        work(y, 1);
        dueCell(10, "4 wood and 24 coal: 52", y, at(0, 0), 4, 24, 0, 1000, 1, 5);
        work(y, 1);
        dueCell(10, "25 coal: 50, not below half", y, at(0, 0), 0, 25, 0, 1000, 1, 5);
        y.hour(0, 1);
        dueCell(10, "20 coal: 40", y, at(0, 0), 0, 20, 0, 1000, 1, 4);
    }

    private static void workedAgain() {
        CharcoalYard y = laid(2, 2, 1);
        y.hole(1, 0);
        y.open(0, true);
        y.cover(1, 1, 7);
        due(11, "not lit", y.again(0, 0, 0), -1);
        y.light();
        due(11, "no hour yet", y.again(0, 0, 0), -1);
        work(y, 3);
        y.open(0, false);
        y.cover(1, 1, 2);
        y.open(0, true);
        work(y, 20);
        y.cover(0, 1, 8);
        int[][] refused = {{-1, 0, 0}, {23, 0, 0}, {0, 10, 0}, {0, -1, 0}, {0, 0, 4}, {0, 0, -1}, {MAX, 0, 0}, {MIN, 0, 0}};
        for (int[] r : refused) {
            due(11, "again(" + r[0] + ", " + r[1] + ", " + r[2] + ")", y.again(r[0], r[1], r[2]), -1);
        }
        due(11, "acts are kept", y.count(8), 4);
        int coal = y.all(2);
        due(11, "the same weather", y.again(22, 0, 0), coal);
        due(11, "acts are kept", y.count(8), 4);
        int answer = y.again(5, 3, 2);
        CharcoalYard fresh = laid(2, 2, 1);
        fresh.hole(1, 0);
        fresh.open(0, true);
        fresh.cover(1, 1, 7);
        fresh.light();
        work(fresh, 3);
        fresh.open(0, false);
        fresh.cover(1, 1, 2);
        fresh.open(0, true);
        work(fresh, 2);
        fresh.hour(3, 2);
        work(fresh, 17);
        fresh.cover(0, 1, 8);
        due(11, "coal", answer, fresh.all(2));
        dueAlike(y, fresh);
        againUndoesWhatRulesDid();
    }

    private static void againUndoesWhatRulesDid() {
        CharcoalYard y = laid(1, 1, 0);
        y.hole(0, 0);
        y.hole(0, 0);
        y.open(0, true);
        y.cover(0, 0, 2);
        tell(y, "t=2:~");
        tell(y, "t=2:+1");
        tell(y, "r=9:^");
        y.light();
        y.cover(0, 0, 1);
        y.hour(9, 0);
        work(y, 3);
        due(11, "cover 1 by hand, then 3 more", cell(y, 0, 0, 5), 4);
        due(11, "no coal with air 4", y.again(0, 0, 0), 0);
        due(11, "cover 1 by hand alone", cell(y, 0, 0, 5), 1);
        due(11, "hole 1 alone is open", y.count(3), 1);
        int[] smoke = {0, 12, 12, 12};
        for (int hour = 0; hour < 4; hour++) {
            due(11, "smoke of hour " + hour, y.told(hour, 2), smoke[hour]);
        }
        tell(y, "t=3:-1");
        y.again(2, 0, 1);
        due(11, "wood: 84, 64, 48", cell(y, 0, 0, 0), 48);
        coverOfLightComesBack();
    }

    private static void coverOfLightComesBack() {
        CharcoalYard y = laid(1, 1, 0);
        y.cover(0, 0, 2);
        tell(y, "r=9:^");
        y.light();
        y.hour(9, 0);
        due(11, "cover 2 and 3", cell(y, 0, 0, 5), 5);
        y.again(0, 8, 0);
        due(11, "cover as light() left it", cell(y, 0, 0, 5), 2);
    }

    private static void dueAlike(CharcoalYard y, CharcoalYard fresh) {
        for (int what = 0; what <= 11; what++) {
            due(11, "count(" + what + ") as of a fresh one", y.count(what), fresh.count(what));
        }
        for (int what = 0; what <= 4; what++) {
            due(11, "all(" + what + ") as of a fresh one", y.all(what), fresh.all(what));
        }
        for (int i = 0; i < 4; i++) {
            for (int what = 0; what <= 8; what++) {
                due(11, "cell as of a fresh one", cell(y, i / 2, i % 2, what), cell(fresh, i / 2, i % 2, what));
            }
            due(11, "breach as of a fresh one", y.breach(i / 2, i % 2), fresh.breach(i / 2, i % 2));
        }
        for (int hour = 0; hour < fresh.count(5); hour++) {
            for (int what = 0; what <= 5; what++) {
                due(11, "told(" + hour + ", " + what + ") as of a fresh one", y.told(hour, what), fresh.told(hour, what));
            }
        }
    }

    private static void raking() {
        CharcoalYard y = laid(3, 1, 0);
        due(12, "not lit", y.rake(), -1);
        y.hole(2, 0);
        y.open(0, true);
        tell(y, "t=0:+0");
        y.light();
        work(y, 15);
        y.cover(0, 0, 1);
        due(12, "25 coal of ring 0, 36 of ring 1", y.all(2), 61);
        due(12, "rake()", y.rake(), 2);
        int[] want = {3, 1, 1, 0, 1, 0, 0, 0, 0, 0, 0, 2};
        for (int what = 0; what < want.length; what++) {
            due(12, "count(" + what + ") behind rake", y.count(what), want[what]);
        }
        for (int what = 0; what < 5; what++) {
            due(12, "all(" + what + ") behind rake", y.all(what), 0);
        }
        for (int ring = 0; ring < 3; ring++) {
            dueCell(12, "behind rake", y, at(ring, 0), 0, 0, 0, 0, 0, 5, 0, 0, 0);
        }
        due(12, "told behind rake", y.told(0, 0), -1);
        due(12, "raked again", y.rake(), -1);
        due(12, "light of an empty one", y.light(), false);
        basketsAddUp(y);
    }

    private static void basketsAddUp(CharcoalYard y) {
        for (int ring = 0; ring < 3; ring++) {
            y.lay(ring, 0, 0);
        }
        y.open(0, true);
        y.light();
        work(y, 40);
        due(12, "100 coal", y.all(2), 100);
        due(12, "a second burning", y.rake(), 4);
        due(12, "baskets of both, the rest thrown away", y.count(11), 6);
        actsAreForgottenBehindRake();
    }

    private static void actsAreForgottenBehindRake() {
        CharcoalYard y = litOne(0);
        y.cover(0, 0, 9);
        y.open(0, false);
        y.rake();
        y.lay(0, 0, 0);
        y.open(0, true);
        y.light();
        work(y, 2);
        due(12, "none is kept", y.count(8), 0);
        y.again(0, 0, 0);
        due(12, "worked again without them: smoke", y.told(1, 2), 12);
        due(12, "worked again without them: cover", cell(y, 0, 0, 5), 5);
    }

    private static void counting() {
        CharcoalYard y = laid(2, 3, 0);
        y.hole(1, 0);
        y.hole(1, 1);
        y.hole(1, 2);
        y.open(0, true);
        y.open(2, true);
        tell(y, "t>0:^");
        y.wood(0, 1, 1);
        y.wood(0, 1, 1);
        write(y, "abcde");
        y.light();
        work(y, 4);
        y.open(2, true);
        int[] want = {2, 3, 3, 2, 1, 4, 1, 1, 1, 2, 5, 0};
        for (int what = 0; what < want.length; what++) {
            due(13, "count(" + what + ")", y.count(what), want[what]);
        }
        int[] none = {-1, 12, MIN, MAX};
        for (int what : none) {
            due(13, "count(" + what + ")", y.count(what), -1);
        }
    }

    private static void cells() {
        CharcoalYard y = laid(2, 2, 3);
        y.hole(1, 0);
        y.open(0, true);
        y.light();
        y.hour(2, 1);
        dueCell(14, "the middle", y, at(0, 0), 100, 0, 20, 500, 1, -1, 4, 100, 3);
        dueCell(14, "the hole's", y, at(1, 0), 300, 0, 180, 25, 0, 5, 5, 300, 3);
        dueCell(14, "the top", y, at(0, 1), 100, 0, 62, 25, 0, 5, 3, 100, 3);
        dueCell(14, "the corner", y, at(1, 1), 300, 0, 186, 0, 0, 5, 4, 300, 3);
        int[][] none = {{2, 0, 0}, {0, 2, 0}, {-1, 0, 0}, {0, -1, 0}, {0, 0, 9}, {0, 0, -1}, {MIN, MIN, MIN}, {MAX, 0, 0}, {1, MAX, 5}};
        for (int[] n : none) {
            due(14, "cell(" + n[0] + ", " + n[1] + ", " + n[2] + ")", cell(y, n[0], n[1], n[2]), THROWN);
        }
    }

    private static void sums() {
        CharcoalYard y = laid(3, 2, 1);
        y.hole(2, 0);
        y.open(0, true);
        due(15, "full", y.all(0), 1800);
        due(15, "wood", y.all(1), 1800);
        due(15, "no smoke ahead of light", y.all(3), 0);
        y.light();
        int smoke = 0;
        for (int i = 0; i < 60; i++) {
            smoke += y.hour(i % 2, i % 4);
            due(15, "0 is the sum of the others", y.all(0), y.all(1) + y.all(2) + y.all(3) + y.all(4));
        }
        due(15, "smoke of all hours", y.all(3), smoke);
        due(15, "there was ash", y.all(4) > 0 && smoke > 0, true);
        int[] none = {-1, 5, MIN, MAX};
        for (int what : none) {
            due(15, "all(" + what + ")", y.all(what), -1);
        }
    }

    private static void telling() {
        CharcoalYard y = litOne(0);
        tell(y, "s>0:+5");
        y.hour(7, 2);
        work(y, 9);
        int[][] want = {{7, 2, 0, 0, 1, 0}, {0, 0, 0, 0, 1, 0}, {0, 0, 12, 1, 1, 0}};
        for (int hour = 0; hour < want.length; hour++) {
            for (int what = 0; what < 6; what++) {
                due(16, "told(" + hour + ", " + what + ")", y.told(hour, what), want[hour][what]);
            }
        }
        due(16, "fires behind the last wood", y.told(8, 4), 0);
        due(16, "cover 0 in hour 9", y.told(9, 5), 1);
        due(16, "cover 1 in hour 8", y.told(8, 5), 0);
        int[][] none = {{10, 0}, {-1, 0}, {0, 6}, {0, -1}, {MAX, 0}, {MIN, 0}, {0, MAX}};
        for (int[] n : none) {
            due(16, "told(" + n[0] + ", " + n[1] + ")", y.told(n[0], n[1]), -1);
        }
        toldBehindPartFour();
    }

    private static void toldBehindPartFour() {
        CharcoalYard y = laid(2, 1, 0);
        y.cover(0, 0, 0);
        y.cover(1, 0, 0);
        y.watch(0);
        tell(y, "k=99:^");
        y.light();
        y.hour(0, 0);
        due(16, "ahead of the rules, seen or not", y.told(0, 5), 2);
        y.hour(0, 0);
        due(16, "one was covered", y.told(1, 5), 1);
    }

    private static void breaches() {
        CharcoalYard y = litOne(0);
        work(y, 8);
        due(17, "not yet", y.breach(0, 0), -1);
        y.hour(0, 0);
        due(17, "in hour 8", y.breach(0, 0), 8);
        y.cover(0, 0, 1);
        y.hour(0, 0);
        due(17, "cover 0 anew", cell(y, 0, 0, 5), 0);
        due(17, "the first hour stays", y.breach(0, 0), 8);
        int[][] none = {{1, 0}, {0, 1}, {-1, 0}, {0, -1}, {MAX, MIN}};
        for (int[] n : none) {
            due(17, "breach(" + n[0] + ", " + n[1] + ")", y.breach(n[0], n[1]), -1);
        }
        y.again(0, 2, 0);
        due(17, "worked again, an hour later", y.breach(0, 0), 9);
        y.rake();
        due(17, "raked", y.breach(0, 0), -1);
        CharcoalYard byHand = litOne(0);
        byHand.cover(0, 0, 0);
        work(byHand, 12);
        due(17, "bared by hand", byHand.breach(0, 0), -1);
    }

    private static void tapes() {
        CharcoalYard y = new CharcoalYard();
        for (int i = 1; i <= 25; i++) {
            due(18, "sign", y.sign(0x733E303A), 4 * i);
        }
        due(18, "more than 100", y.sign(0), -1);
        due(18, "signs", y.count(10), 100);
        due(19, "end(101)", y.end(101), false);
        due(19, "end(-1)", y.end(-1), false);
        due(19, "end(least)", y.end(MIN), false);
        due(19, "end(100)", y.end(100), true);
        due(19, "end(97)", y.end(97), true);
        due(18, "97 and 4 are more than 100", y.sign(0), -1);
        due(19, "end(96)", y.end(96), true);
        due(18, "96 and 4", y.sign(-1), 100);
        due(19, "end(4)", y.end(4), true);
        due(19, "end(5)", y.end(5), false);
        due(18, "the highest byte first", y.sign(0x2B31377E), 8);
        due(20, "s>0:+17~ has a sign too many", y.rule(), -8);
        due(19, "end(0) of an empty one", y.end(0), true);
        due(19, "end(1) of an empty one", y.end(1), false);
        due(18, "signs of high bytes", y.sign(0xF3F3F3F3), 4);
        due(20, "a sign above 127", y.rule(), -1);
    }

    private static void ruleTexts() {
        String[] good = {"s>0:^", "k<12345:~", "c=0:+0", "t>1:-99999", "o=00001:+00000", "r<9&w>1:^", "s>0&s>0&s>0:~"};
        for (String text : good) {
            due(20, text, tell(new CharcoalYard(), text), 0);
        }
        Object[][] bad = {{"", 0}, {"s", 1}, {"s>", 2}, {"s>1", 3}, {"s>1:", 4}, {"s>1:+", 5}, {"s>1&", 4}, {"s>1&k", 5},
            {"x>1:^", 0}, {"S>1:^", 0}, {"s!1:^", 1}, {"s>:^", 2}, {"s>-1:^", 2}, {"s>123456:^", 7}, {"s>1^", 3},
            {"s>1::^", 4}, {"s>1:*", 4}, {"s>1:^^", 5}, {"s>1:~0", 5}, {"s>1:+123456", 10}, {"s>1:+1&", 6}, {"s>1:-x", 5},
            {" s>1:^", 0}, {"s >1:^", 1}, {"s>1 :^", 3}, {"s>1: ^", 4}, {"s>1:^ ", 5}, {":^", 0}, {"&s>1:^", 0},
            {"s>1&&k>1:^", 4}, {"s>1&:^", 4}, {"s>=1:^", 2}, {"s>1|k>1:^", 3}, {"s>1\0", 3}};
        for (Object[] b : bad) {
            CharcoalYard y = new CharcoalYard();
            due(20, (String) b[0], tell(y, (String) b[0]), -1 - (Integer) b[1]);
            due(20, "the tape is empty then", y.count(10), 0);
            due(20, "no rule", y.count(4), 0);
        }
        longTexts();
        eightRules();
    }

    private static void longTexts() {
        String nine = "k>1&k>1&k>1&k>1&k>1&k>1&k>1&k>1&k>1";
        CharcoalYard y = new CharcoalYard();
        due(20, "37 signs", tell(y, nine + ":^"), 0);
        due(20, "40 signs", tell(y, nine + ":+123"), 1);
        due(20, "41 signs, 40 could end", tell(y, nine + ":+1234"), -41);
        due(20, "41 signs, 40 could end, a wrong one behind", tell(y, nine + ":+123x"), -41);
        due(20, "41 signs, 40 have ended", tell(y, nine + "567:^" + "^"), -41);
        due(20, "41 signs, 40 could go on", tell(y, nine + "&k>1:^"), -41);
        due(20, "40 signs that end too early", tell(y, nine + "&k>1:"), -41);
        due(20, "44 signs, all asks", tell(y, nine + "&k>1&k>1&k"), -41);
        due(20, "a fault ahead of 40", tell(y, nine + "&x>1:^"), -37);
        due(20, "a fault at 39", tell(y, nine + "&k>1^^^"), -40);
        due(20, "ten asks and no colon", tell(y, nine + "&k>1"), -40);
    }

    private static void eightRules() {
        CharcoalYard y = new CharcoalYard();
        for (int i = 0; i < 8; i++) {
            due(20, "rule " + i, tell(y, "t>1:^"), i);
            due(20, "the tape is empty behind rule " + i, y.count(10), 0);
        }
        String[] ninths = {"t>1:^", "x", "", "t>1&t>1&t>1&t>1&t>1&t>1&t>1&t>1&t>1&t>1&t>1:^"};
        for (String text : ninths) {
            due(20, "a ninth, asked first: " + text, tell(y, text), -100);
            due(20, "the tape is empty behind -100: " + text, y.count(10), 0);
        }
        due(20, "rules", y.count(4), 8);
        due(18, "signs from the first place on behind -100", y.sign(0x743E313A), 4);
        due(20, "a ninth cut short", y.rule(), -100);
        due(19, "nothing is left to be kept", y.end(1), false);
        due(21, "repeal()", y.repeal(), 8);
        due(20, "an empty tape behind repeal()", y.rule(), -1);
        due(20, "anew", tell(y, "t>1:^"), 0);
        eightRulesWhileLit();
    }

    private static void eightRulesWhileLit() {
        CharcoalYard y = litOne(0);
        for (int i = 0; i < 8; i++) {
            tell(y, "t>1:~");
        }
        due(20, "a ninth while lit", tell(y, "t>1:~"), -100);
        due(20, "the tape is empty then, too", y.count(10), 0);
        due(20, "eight rules stay", y.count(4), 8);
    }

    private static void rulesAtWork() {
        CharcoalYard y = laid(2, 2, 0);
        y.hole(1, 0);
        y.hole(1, 1);
        y.hole(0, 1);
        String[] texts = {"t=0:+0", "o=1&t=0:+1", "o=2&t<1:+02", "o=3&t=1:~", "o=0&t=1:+9", "r=3&w=2:-1", "c=5&k=0:^", "t>2:-9"};
        for (String text : texts) {
            tell(y, text);
        }
        y.light();
        y.hour(0, 0);
        due(20, "one by one, o of now", y.told(0, 3), 0b1000111);
        due(20, "all open", y.count(3), 3);
        y.hour(0, 0);
        due(20, "all shut, then none", y.told(1, 3), 0b1011000);
        due(20, "none open", y.count(3), 0);
        y.open(1, true);
        y.hour(3, 2);
        due(20, "rain and wind", y.told(2, 3), 0b1100000);
        due(20, "hole 1 is shut", y.count(3), 0);
        due(20, "a rule for no hole acts on nothing", y.hour(3, 1), 0);
        due(20, "but it holds", y.told(3, 3), 0b10000000);
        due(20, "least ring, then height: first", cell(y, 0, 1, 5), 8);
        due(20, "second", cell(y, 1, 0, 5), 8);
        due(20, "third", cell(y, 1, 1, 5), 8);
        smokeSeenAheadOfRules();
        coverAtMostNine();
        relations();
        theThinnestFirst();
    }

    private static void relations() {
        CharcoalYard y = laid(1, 1, 0);
        tell(y, "t<2:+0");
        tell(y, "t=2:+0");
        tell(y, "t>2:+0");
        y.light();
        work(y, 4);
        int[] want = {1, 1, 2, 4};
        for (int hour = 0; hour < 4; hour++) {
            due(20, "below, equal, above in hour " + hour, y.told(hour, 3), want[hour]);
        }
    }

    private static void theThinnestFirst() {
        CharcoalYard y = laid(2, 2, 0);
        tell(y, "t<9:^");
        y.light();
        int[][] want = {{8, 5, 5}, {8, 8, 5}, {8, 8, 8}, {9, 8, 8}};
        for (int[] covers : want) {
            y.hour(0, 0);
            due(20, "cover of 0, 1", cell(y, 0, 1, 5), covers[0]);
            due(20, "cover of 1, 0", cell(y, 1, 0, 5), covers[1]);
            due(20, "cover of 1, 1", cell(y, 1, 1, 5), covers[2]);
        }
        y.cover(1, 1, 1);
        y.hour(0, 0);
        due(20, "the least, though the last", cell(y, 1, 1, 5), 4);
    }

    private static void smokeSeenAheadOfRules() {
        CharcoalYard y = laid(2, 1, 0);
        y.cover(0, 0, 0);
        y.cover(1, 0, 0);
        tell(y, "k=2:^");
        tell(y, "k=2&c=0:^");
        tell(y, "k=1:^");
        y.light();
        y.hour(0, 0);
        due(20, "what was seen ahead of all rules", y.told(0, 3), 0b011);
        due(20, "cover of ring 0", cell(y, 0, 0, 5), 3);
        due(20, "cover of ring 1", cell(y, 1, 0, 5), 3);
        CharcoalYard one = litOne(0);
        tell(one, "s>11&s<13:-0");
        work(one, 2);
        due(20, "smoke of this hour", one.told(1, 3), 1);
        due(20, "smoke of the hour ahead", one.told(0, 3), 0);
    }

    private static void coverAtMostNine() {
        CharcoalYard y = laid(1, 1, 0);
        tell(y, "t<9:^");
        y.light();
        work(y, 2);
        due(20, "at most 9", cell(y, 0, 0, 5), 9);
    }

    private static void rulesInTime() {
        CharcoalYard y = laid(1, 1, 0);
        y.light();
        work(y, 2);
        due(20, "told while lit", tell(y, "t<99:^"), 0);
        work(y, 2);
        int[] first = {0, 0, 1, 1};
        for (int hour = 0; hour < 4; hour++) {
            due(20, "from the hour of then on: " + hour, y.told(hour, 3), first[hour]);
        }
        y.again(0, 0, 0);
        for (int hour = 0; hour < 4; hour++) {
            due(20, "worked again: " + hour, y.told(hour, 3), first[hour]);
        }
        y.rake();
        y.lay(0, 0, 0);
        y.light();
        y.hour(0, 0);
        due(20, "lit again: from the first hour on", y.told(0, 3), 1);
    }

    private static void repealing() {
        CharcoalYard y = laid(1, 1, 0);
        due(21, "none", y.repeal(), 0);
        tell(y, "t>1:^");
        tell(y, "t>1:^");
        y.light();
        due(21, "while lit", y.repeal(), -1);
        due(21, "rules stay", y.count(4), 2);
        y.rake();
        due(21, "two", y.repeal(), 2);
        due(21, "rules", y.count(4), 0);
        y.lay(0, 0, 0);
        y.light();
        work(y, 3);
        due(21, "none acts", y.told(2, 3), 0);
        due(21, "none acts on cover", cell(y, 0, 0, 5), 5);
    }

    private static void woods() {
        CharcoalYard y = new CharcoalYard();
        int[][] refused = {{-1, 1, 1}, {201, 1, 1}, {0, 0, 1}, {0, 101, 1}, {0, 1, 0}, {0, 1, 1001}, {MIN, 1, 1}, {0, MAX, 1}, {0, 1, MIN}};
        for (int[] r : refused) {
            due(22, "wood(" + r[0] + ", " + r[1] + ", " + r[2] + ")", y.wood(r[0], r[1], r[2]), -1);
        }
        due(22, "least numbers", y.wood(0, 1, 1), 0);
        due(22, "greatest numbers", y.wood(200, 100, 1000), 1);
        for (int i = 2; i < 12; i++) {
            due(22, "wood " + i, y.wood(i, i, i), i);
        }
        due(22, "a thirteenth", y.wood(1, 1, 1), -1);
        due(22, "woods", y.count(9), 12);
    }

    private static void years() {
        CharcoalYard y = new CharcoalYard();
        y.wood(3, 50, 5);
        y.wood(200, 50, 5);
        int[] refused = {-1, 201, MIN, MAX};
        for (int n : refused) {
            due(23, "years(" + n + ")", y.years(n), false);
        }
        due(23, "years(0)", y.years(0), true);
        due(23, "age", stand(y, 0, 0), 3);
        due(23, "years(200)", y.years(200), true);
        due(23, "age", stand(y, 0, 0), 203);
        due(23, "age", stand(y, 1, 0), 400);
        for (int i = 0; i < 50; i++) {
            y.years(200);
        }
        due(23, "at most 10000", stand(y, 0, 0), 10000);
        due(23, "at most 10000", stand(y, 1, 0), 10000);
    }

    private static void cuts() {
        CharcoalYard y = new CharcoalYard();
        y.wood(9, 10, 44);
        y.wood(20, 10, 55);
        int[] none = {-1, 2, 12, MIN, MAX};
        for (int wood : none) {
            due(24, "cut(" + wood + ")", y.cut(wood), -1);
        }
        due(24, "below its least age", y.cut(0), -1);
        y.years(1);
        due(24, "at its least age", y.cut(0), 44);
        due(24, "age then", stand(y, 0, 0), 0);
        due(24, "cut again", y.cut(0), -1);
        due(24, "the other", stand(y, 1, 0), 21);
        y.years(10);
        due(24, "grown again", y.cut(0), 44);
    }

    private static void plans() {
        CharcoalYard y = new CharcoalYard();
        int[] refused = {0, -1, 20001, MIN, MAX};
        for (int want : refused) {
            due(25, "plan(" + want + ")", y.plan(want), -1);
        }
        due(25, "no woods", y.plan(1), -3);
        due(25, "no woods", y.plan(20000), -3);
        int[] loads = {30, 50, 20, 50, 40, 10};
        for (int l : loads) {
            y.wood(10, 10, l);
        }
        y.wood(9, 10, 1000);
        due(25, "one that gives least", y.plan(35), 0b010000);
        due(25, "of equal ones the least number", y.plan(50), 0b000010);
        due(25, "the fewest ahead of the least", y.plan(51), 0b010100);
        due(25, "two that give 70", y.plan(70), 0b000110);
        due(25, "two that give 80", y.plan(75), 0b000011);
        due(25, "all that may be cut", y.plan(200), 0b111111);
        due(25, "but for the least", y.plan(190), 0b011111);
        due(25, "more than all", y.plan(201), -3);
        y.years(1);
        due(25, "the great one may be cut", y.plan(201), 0b1000000);
        y.cut(6);
        due(25, "it was cut", y.plan(201), -3);
        due(25, "a plan cuts none", y.plan(190), 0b011111);
        twelveWoods();
    }

    private static void twelveWoods() {
        CharcoalYard y = new CharcoalYard();
        for (int i = 0; i < 12; i++) {
            y.wood(100, 100, 1000);
        }
        due(25, "all twelve", y.plan(12000), 0xFFF);
        due(25, "more than all twelve", y.plan(12001), -3);
        due(25, "the six lowest", y.plan(5001), 0x3F);
        due(25, "the lowest", y.plan(1000), 1);
        unripeOnes();
    }

    private static void unripeOnes() {
        CharcoalYard y = new CharcoalYard();
        y.wood(9, 10, 50);
        y.wood(10, 10, 70);
        y.wood(10, 10, 60);
        due(25, "one that may be cut", y.plan(50), 0b100);
        due(25, "two that may be cut", y.plan(110), 0b110);
        due(25, "three would be needed", y.plan(131), -3);
    }

    private static void stands() {
        CharcoalYard y = new CharcoalYard();
        due(26, "no woods", stand(y, 0, 0), THROWN);
        y.wood(7, 20, 300);
        int[] want = {7, 20, 300, 13};
        for (int what = 0; what < 4; what++) {
            due(26, "stand(0, " + what + ")", stand(y, 0, what), want[what]);
        }
        y.years(13);
        due(26, "may be cut", stand(y, 0, 3), 0);
        y.years(13);
        due(26, "may be cut for long", stand(y, 0, 3), 0);
        int[][] none = {{1, 0}, {-1, 0}, {0, 4}, {0, -1}, {MIN, 0}, {MAX, 0}, {0, MAX}};
        for (int[] n : none) {
            due(26, "stand(" + n[0] + ", " + n[1] + ")", stand(y, n[0], n[1]), THROWN);
        }
    }
}
