/** Each sentence of the document's terms that names a boundary has a test of its own here. */
public final class TermsTest extends YardTest {
    public static void main(String[] args) {
        cells();
        air();
        fire();
        catching();
        sinking();
        rain();
        seen();
        ruleWords();
        acts();
        time();
        close();
    }

    // ---- Terms 1

    private static void cells() {
        share();
        allNoughtAtFirst();
        outsideOfEverySize();
        coverAtFirst();
        neighboursAreOneOff();
        neighboursUpToTheLast();
        kinds();
        mostHoles();
    }

    private static void share() {
        sentence("Terms 1", "its SHARE is 2 * r + 1");
        CharcoalYard y = new CharcoalYard();
        y.clamp(8, 8);
        for (int ring = 0; ring < 8; ring++) {
            due("wood of ring " + ring, y.lay(ring, 7, 0), 100 * (2 * ring + 1));
        }
    }

    private static void allNoughtAtFirst() {
        sentence("Terms 1", "It has WOOD, COAL, WET, HEAT (all 0 at first), FIRE or not, a KIND, FULL (what was laid)");
        CharcoalYard y = new CharcoalYard();
        dueCell("new", y, 0, 0, 0, 0, 0, 0, 0, 5, 0, 0, 0);
        y.clamp(8, 8);
        for (int i = 0; i < 8; i++) {
            dueCell("clamp(8, 8)", y, i, 7 - i, 0, 0, 0, 0, 0);
            due("full", cell(y, i, 7 - i, 7), 0);
        }
    }

    private static void outsideOfEverySize() {
        sentence("Terms 1", "It is OUTSIDE, if its RING or its HEIGHT is the last one");
        int[][] sizes = {{1, 1}, {1, 8}, {8, 1}, {2, 2}, {3, 4}, {4, 3}, {8, 8}};
        for (int[] size : sizes) {
            CharcoalYard y = new CharcoalYard();
            y.clamp(size[0], size[1]);
            for (int ring = 0; ring < size[0]; ring++) {
                for (int height = 0; height < size[1]; height++) {
                    boolean last = ring == size[0] - 1 || height == size[1] - 1;
                    due("cover of " + ring + ", " + height + " in " + size[0] + " by " + size[1],
                        cell(y, ring, height, 5), last ? 5 : -1);
                }
            }
        }
    }

    private static void coverAtFirst() {
        sentence("Terms 1", "then it has COVER 0 .. 9 (5 at first)");
        CharcoalYard y = new CharcoalYard();
        due("cover at first", cell(y, 0, 0, 5), 5);
        due("cover(0, 0, 0)", y.cover(0, 0, 0), true);
        due("cover 0", cell(y, 0, 0, 5), 0);
        due("cover(0, 0, 9)", y.cover(0, 0, 9), true);
        due("cover 9", cell(y, 0, 0, 5), 9);
    }

    private static void neighboursAreOneOff() {
        sentence("Terms 1", "NEIGHBOURS: a RING or a HEIGHT one off");
        CharcoalYard y = laid(3, 3, 0);
        y.light();
        y.hour(0, 0);
        for (int ring = 0; ring < 3; ring++) {
            for (int height = 0; height < 3; height++) {
                if (ring + height > 0) {
                    due("heat of " + ring + ", " + height, cell(y, ring, height, 3), ring + height == 1 ? 25 : 0);
                }
            }
        }
    }

    /** Fire goes a way of five cells; the last of them has no other neighbour than the last ring or the last height. */
    private static void neighboursUpToTheLast() {
        sentence("Terms 1", "a RING or a HEIGHT one off");
        int[][] fromTheLastRing = {{0, 0}, {1, 0}, {1, 1}, {1, 2}, {0, 2}};
        int[][] fromTheLastHeight = {{0, 0}, {0, 1}, {1, 1}, {2, 1}, {2, 0}};
        for (int[][] way : new int[][][] {fromTheLastRing, fromTheLastHeight}) {
            CharcoalYard y = new CharcoalYard();
            y.clamp(way == fromTheLastRing ? 2 : 3, way == fromTheLastRing ? 3 : 2);
            for (int[] c : way) {
                y.lay(c[0], c[1], 0);
            }
            y.hole(way[4][0], way[4][1]);
            y.open(0, true);
            y.light();
            for (int i = 0; i < 200 && cell(y, way[3][0], way[3][1], 4) == 0; i++) {
                y.hour(0, 0);
            }
            long heat = cell(y, way[3][0], way[3][1], 3);
            due("the fourth of the way has fire", heat >= 300, true);
            due("the last of the way is cold", cell(y, way[4][0], way[4][1], 3), 0);
            y.hour(0, 0);
            due("the last of the way is warmed", cell(y, way[4][0], way[4][1], 3), heat / 20);
        }
    }

    private static void kinds() {
        sentence("Terms 1", "3 KNOTTY: as GREEN, but RATE half");
        int[] damp = {20, 20, 60, 60};
        int[] wood = {84, 76, 84, 92};
        int[] smoke = {12, 19, 12, 6};
        for (int kind = 0; kind < 4; kind++) {
            CharcoalYard y = litOne(kind);
            due("damp of kind " + kind, cell(y, 0, 0, 2), damp[kind]);
            y.hour(0, 2);
            due("dried, kind " + kind, cell(y, 0, 0, 2), 0);
            due("smoke of kind " + kind, y.hour(0, 0), smoke[kind]);
            due("wood of kind " + kind, cell(y, 0, 0, 0), wood[kind]);
        }
    }

    private static void mostHoles() {
        sentence("Terms 1", "HOLES 0 .. (at most 12), each at a CELL that is OUTSIDE, OPEN or SHUT");
        CharcoalYard y = new CharcoalYard();
        for (int i = 0; i < 12; i++) {
            due("hole " + i, y.hole(0, 0), i);
            due("open(" + i + ", true)", y.open(i, true), true);
        }
        due("a thirteenth", y.hole(0, 0), -1);
        due("open(12, true)", y.open(12, true), false);
        dueCounts("twelve", y, 1, 1, 12, 12);
    }

    // ---- Terms 2, part 1

    private static void air() {
        airOfCoverNought();
        airOfOpenHoles();
        airIsTheGreatest();
        airThins();
        airNotBelowNought();
        airIsAheadOfTheOtherParts();
    }

    private static void airOfCoverNought() {
        sentence("Terms 2, part 1", "all CELLS OUTSIDE with COVER 0");
        int[] covers = {0, 1, 9};
        for (int v : covers) {
            CharcoalYard y = laid(1, 1, 0);
            y.cover(0, 0, v);
            y.light();
            y.hour(0, 0);
            due("air with cover " + v, cell(y, 0, 0, 6), v == 0 ? 4 : 0);
        }
    }

    private static void airOfOpenHoles() {
        sentence("Terms 2, part 1", "of all OPEN HOLES' CELLS");
        CharcoalYard y = laid(8, 1, 0);
        for (int i = 0; i < 12; i++) {
            y.hole(i < 11 ? 0 : 7, 0);
        }
        y.light();
        y.hour(0, 0);
        due("twelve holes, all shut", cell(y, 0, 0, 6) + cell(y, 7, 0, 6), 0);
        y.open(11, true);
        y.hour(0, 0);
        due("the twelfth is open", cell(y, 7, 0, 6), 4);
        due("the others are shut", cell(y, 0, 0, 6), 0);
        y.open(0, true);
        y.hour(0, 0);
        due("the first is open, too", cell(y, 0, 0, 6), 4);
    }

    private static void airIsTheGreatest() {
        sentence("Terms 2, part 1", "the greatest of 4 and WIND");
        CharcoalYard y = laid(3, 1, 0);
        y.hole(0, 0);
        y.hole(0, 0);
        y.open(0, true);
        y.open(1, true);
        y.cover(0, 0, 0);
        y.cover(2, 0, 0);
        y.light();
        for (int wind = 0; wind <= 3; wind++) {
            y.hour(0, wind);
            due("two holes and a breach in one cell, wind " + wind, cell(y, 0, 0, 6), 4 + wind);
            due("between two cells, wind " + wind, cell(y, 1, 0, 6), 3 + wind);
        }
    }

    private static void airThins() {
        sentence("Terms 2, part 1", "less how many RINGS and HEIGHTS it is off");
        int[][] sources = {{1, 3}, {0, 3}, {3, 0}, {3, 2}, {3, 3}};
        for (int[] from : sources) {
            CharcoalYard y = laid(4, 4, 0);
            y.hole(from[0], from[1]);
            y.open(0, true);
            y.light();
            y.hour(0, 3);
            for (int ring = 0; ring < 4; ring++) {
                for (int height = 0; height < 4; height++) {
                    int off = Math.abs(ring - from[0]) + Math.abs(height - from[1]);
                    due("air of " + ring + ", " + height, cell(y, ring, height, 6), 7 - off);
                }
            }
        }
        airOfOneRow();
    }

    private static void airOfOneRow() {
        CharcoalYard wide = laid(8, 1, 0);
        CharcoalYard high = laid(1, 8, 0);
        wide.cover(0, 0, 0);
        high.cover(0, 0, 0);
        wide.light();
        high.light();
        wide.hour(0, 3);
        high.hour(0, 3);
        for (int off = 0; off < 8; off++) {
            due("air " + off + " rings off", cell(wide, off, 0, 6), 7 - off);
            due("air " + off + " heights off", cell(high, 0, off, 6), 7 - off);
        }
    }

    private static void airNotBelowNought() {
        sentence("Terms 2, part 1", "it is off; not below 0");
        CharcoalYard y = laid(8, 8, 0);
        y.cover(7, 7, 0);
        y.light();
        y.hour(0, 3);
        due("14 off", cell(y, 0, 0, 6), 0);
        due("8 off", cell(y, 3, 3, 6), 0);
        due("7 off", cell(y, 4, 3, 6), 0);
        due("6 off", cell(y, 4, 4, 6), 1);
    }

    private static void airIsAheadOfTheOtherParts() {
        sentence("Terms 2", "AN HOUR with RAIN 0 .. 9 and WIND 0 .. 3, in this order");
        CharcoalYard byRule = laid(1, 1, 0);
        byRule.hole(0, 0);
        tell(byRule, "t=0:+0");
        byRule.light();
        byRule.hour(0, 0);
        due("a hole that part 6 opened, air of this hour", cell(byRule, 0, 0, 6), 0);
        byRule.hour(0, 0);
        due("air of the next hour", cell(byRule, 0, 0, 6), 4);
        CharcoalYard breached = litOne(0);
        breached.cover(0, 0, 2);
        work(breached, 5);
        breached.open(0, false);
        breached.hour(0, 0);
        due("breached in part 4 of hour 5", breached.breach(0, 0), 5);
        due("air of hour 5", cell(breached, 0, 0, 6), 0);
        breached.hour(0, 0);
        due("air of hour 6", cell(breached, 0, 0, 6), 4);
        rainIsBehindFire();
    }

    private static void rainIsBehindFire() {
        CharcoalYard y = litOne(0);
        y.hour(0, 0);
        due("rain of this hour does not damp its fire", y.hour(9, 0), 12);
        due("but that of the next", y.hour(0, 0), 0);
    }

    // ---- Terms 2, part 2

    private static void fire() {
        heatNotBelowNought();
        wetStaysWithoutAir();
        wetNotBelowNought();
        wetByAirAlone();
        woodAsFarAsThereIs();
        coalIsCut();
        heatAtMostAThousand();
        ashAsFarAsThereIs();
        ashAboveThreeAlone();
        noAshOfAWetOne();
        outWithHeatNought();
        outWithoutWoodAndCoal();
    }

    /** Heat 620 is no multiple of 50, so the last of it is less than an hour takes. */
    private static void heatNotBelowNought() {
        sentence("Terms 2, part 2", "with AIR 0: HEAT 50 less, not below 0");
        CharcoalYard y = litRow(2, 0);
        work(y, 2);
        due("heat", cell(y, 0, 0, 3), 620);
        y.open(0, false);
        y.hour(0, 0);
        due("50 less", cell(y, 0, 0, 3), 570);
        work(y, 11);
        dueCell("20 left", y, 0, 0, 88, 3, 0, 20, 1);
        y.hour(0, 0);
        dueCell("not below 0, and out", y, 0, 0, 88, 3, 0, 0, 0);
    }

    private static void wetStaysWithoutAir() {
        sentence("Terms 2, part 2", "Of each CELL with FIRE: with AIR 0: HEAT 50 less");
        CharcoalYard y = laid(2, 1, 2);
        y.light();
        y.hour(0, 0);
        dueCell("wet and without air", y, 0, 0, 100, 0, 60, 450, 1);
        dueCell("without fire nothing is less", y, 1, 0, 300, 0, 180, 25, 0);
    }

    private static void wetNotBelowNought() {
        sentence("Terms 2, part 2", "if it is WET: WET less by 10 times AIR, not below 0");
        CharcoalYard y = litOne(2);
        due("no smoke of a wet one", y.hour(0, 0), 0);
        dueCell("60 less 40", y, 0, 0, 100, 0, 20, 500, 1);
        due("no smoke", y.hour(0, 0), 0);
        dueCell("20 less 40", y, 0, 0, 100, 0, 0, 500, 1);
        due("dry", y.hour(0, 0), 12);
        CharcoalYard exact = litRow(3, 0);
        exact.hour(0, 0);
        dueCell("20 less 20", exact, 0, 0, 100, 0, 0, 500, 1);
        due("dry", exact.hour(0, 0), 6);
    }

    /** Ring 1 catches fire in hour 8 and has air 3 then. */
    private static void wetByAirAlone() {
        sentence("Terms 2, part 2", "WET less by 10 times AIR");
        CharcoalYard y = litRow(3, 0);
        work(y, 9);
        dueCell("ring 1 has fire", y, 1, 0, 300, 0, 60, 334, 1);
        y.hour(0, 0);
        dueCell("60 less 30, whatever its share", y, 1, 0, 300, 0, 30, 334, 1);
    }

    private static void woodAsFarAsThereIs() {
        sentence("Terms 2, part 2", "Else WOOD less by RATE * AIR * SHARE, as far as there is");
        CharcoalYard y = litOne(0);
        work(y, 7);
        due("wood", cell(y, 0, 0, 0), 4);
        due("4 of 16 that would go: 3 are smoke", y.hour(0, 0), 3);
        due("none left", cell(y, 0, 0, 0), 0);
        due("none goes", y.hour(0, 0), 0);
        due("not below 0", cell(y, 0, 0, 0), 0);
        CharcoalYard exact = litRow(2, 3);
        work(exact, 2 + 16);
        due("4 left of 100 by 6", cell(exact, 0, 0, 0), 4);
        exact.hour(0, 0);
        due("none left", cell(exact, 0, 0, 0), 0);
        CharcoalYard ring = litRow(3, 0);
        work(ring, 11);
        dueCell("ring 1 is dry", ring, 1, 0, 300, 0, 0, 334, 1);
        ring.hour(0, 0);
        dueCell("4 * 3 * 3 went", ring, 1, 0, 264, 9, 0, 454, 1);
    }

    private static void coalIsCut() {
        sentence("Terms 2, part 2", "of what went YIELD by 100 (cut) is COAL more, the rest is SMOKE");
        CharcoalYard birch = litRow(2, 1);
        birch.hour(0, 0);
        due("22 by 100 of 18 are 3.96: 3 coal", birch.hour(0, 0), 15);
        due("coal", cell(birch, 0, 0, 1), 3);
        CharcoalYard knotty = litRow(4, 3);
        work(knotty, 6);
        due("25 by 100 of 2 are 0.5: no coal", knotty.hour(0, 0), 2);
        due("coal", cell(knotty, 0, 0, 1), 0);
        due("wood", cell(knotty, 0, 0, 0), 98);
    }

    private static void heatAtMostAThousand() {
        sentence("Terms 2, part 2", "HEAT is 40 * AIR more, at most 1000");
        CharcoalYard y = litRow(2, 0);
        work(y, 5);
        due("500 and 4 times 120", cell(y, 0, 0, 3), 980);
        y.hour(0, 0);
        due("at most 1000", cell(y, 0, 0, 3), 1000);
        y.hour(0, 0);
        due("still", cell(y, 0, 0, 3), 1000);
        CharcoalYard coal = litRow(2, 0);
        work(coal, 10);
        coal.open(0, false);
        work(coal, 4);
        dueCell("coal alone, cooled", coal, 0, 0, 0, 25, 0, 800, 1);
        coal.open(0, true);
        coal.hour(0, 0);
        dueCell("120 more, though no wood went", coal, 0, 0, 0, 25, 0, 920, 1);
    }

    private static void ashAsFarAsThereIs() {
        sentence("Terms 2, part 2", "COAL less by 5 * SHARE * (AIR - 3), as far as there is; that is ASH");
        CharcoalYard y = litOne(0);
        y.hour(0, 0);
        y.hour(0, 3);
        due("7 coal, 20 would be ash: none left", cell(y, 0, 0, 1), 0);
        due("ash", y.all(4), 7);
        CharcoalYard old = litRow(2, 0);
        work(old, 5);
        due("coal", cell(old, 0, 0, 1), 12);
        old.hour(0, 1);
        due("12 and 4, less 5", cell(old, 0, 0, 1), 11);
        due("ash", old.all(4), 5);
        old.hour(0, 3);
        due("11 and 6, less 15", cell(old, 0, 0, 1), 2);
        due("ash", old.all(4), 20);
        CharcoalYard ring = litRow(3, 0);
        work(ring, 13);
        due("coal of ring 1", cell(ring, 1, 0, 1), 18);
        ring.hour(0, 1);
        due("18 and 12, less 5 * 3", cell(ring, 1, 0, 1), 15);
        due("ash", ring.all(4), 15);
    }

    private static void ashAboveThreeAlone() {
        sentence("Terms 2, part 2", "with AIR above 3");
        CharcoalYard three = litRow(2, 0);
        work(three, 2);
        due("air", cell(three, 0, 0, 6), 3);
        due("no ash", three.all(4), 0);
        due("coal", cell(three, 0, 0, 1), 3);
        CharcoalYard four = litOne(0);
        work(four, 2);
        due("air", cell(four, 0, 0, 6), 4);
        due("ash: the 4 coal that are there of 5", four.all(4), 4);
    }

    private static void noAshOfAWetOne() {
        sentence("Terms 2, part 2", "Behind that (of one that was not WET");
        CharcoalYard y = litRow(2, 0);
        work(y, 4);
        y.hour(1, 0);
        dueCell("12 coal, and rain on it", y, 0, 0, 52, 12, 1, 980, 1);
        y.hour(0, 3);
        dueCell("dried with air 6, without ash", y, 0, 0, 52, 12, 0, 980, 1);
        due("no ash", y.all(4), 0);
        y.hour(0, 3);
        dueCell("dry: 12 and 6, less 15", y, 0, 0, 28, 3, 0, 1000, 1);
    }

    private static void outWithHeatNought() {
        sentence("Terms 2, part 2", "FIRE is out, if HEAT is 0");
        CharcoalYard y = laid(1, 1, 0);
        y.light();
        work(y, 9);
        dueCell("heat 50", y, 0, 0, 100, 0, 20, 50, 1);
        y.hour(0, 0);
        dueCell("heat 0", y, 0, 0, 100, 0, 20, 0, 0);
        due("no cell with fire", y.count(7), 0);
        due("an hour without any fire", y.hour(0, 0), 0);
        due("it is lit still", y.count(6), 1);
    }

    private static void outWithoutWoodAndCoal() {
        sentence("Terms 2, part 2", "or WOOD and COAL are");
        CharcoalYard wood = litOne(0);
        work(wood, 2);
        dueCell("wood alone burns", wood, 0, 0, 84, 0, 0, 660, 1);
        CharcoalYard coal = litRow(2, 0);
        work(coal, 10);
        dueCell("coal alone burns", coal, 0, 0, 0, 25, 0, 1000, 1);
        coal.hour(0, 3);
        dueCell("less 15", coal, 0, 0, 0, 10, 0, 1000, 1);
        coal.hour(0, 3);
        dueCell("neither: out, with its heat", coal, 0, 0, 0, 0, 0, 1000, 0);
    }

    // ---- Terms 2, part 3

    private static void catching() {
        threeHundredAndOneBelow();
        fireAheadOfPartTwo();
        withoutWoodAndCoalNone();
        withCoalAlone();
        withOneCoal();
        theSumIsCut();
        heatAheadOfPartTwo();
        neighboursWithFireAlone();
    }

    /** Rain keeps the middle wet, so its heat is 500, and 50 less for each hour in which the hole is shut. */
    private static void threeHundredAndOneBelow() {
        sentence("Terms 2, part 3", "with 300 or more it has FIRE");
        CharcoalYard y = litRow(2, 2);
        work(y, 11, 9, 0);
        dueCell("11 times 25", y, 1, 0, 300, 0, 300, 275, 0);
        y.hour(9, 0);
        dueCell("300", y, 1, 0, 300, 0, 300, 300, 1);
        CharcoalYard below = litRow(2, 2);
        workShutLast(below, 1);
        workShutLast(below, 7);
        work(below, 6, 9, 0);
        due("25, 7 times 22, 6 times 20", cell(below, 1, 0, 3), 299);
        due("299 has no fire", cell(below, 1, 0, 4), 0);
        below.hour(9, 0);
        due("20 more", cell(below, 1, 0, 3), 319);
        due("319 has fire", cell(below, 1, 0, 4), 1);
    }

    private static void workShutLast(CharcoalYard y, int hours) {
        work(y, hours - 1, 9, 0);
        y.open(0, false);
        y.hour(9, 0);
        y.open(0, true);
    }

    /** Both cool from 500 and 300 on without air: ring 1 is out first, with the middle still hot beside it. */
    private static void fireAheadOfPartTwo() {
        sentence("Terms 2, part 3", "Of each CELL that had no FIRE ahead of 2");
        CharcoalYard y = litRow(2, 2);
        work(y, 12, 9, 0);
        y.open(0, false);
        work(y, 5);
        due("50 of 300 left, none came from the middle", cell(y, 1, 0, 3), 50);
        due("the middle", cell(y, 0, 0, 3), 250);
        y.hour(0, 0);
        due("out, not warmed in the same hour", cell(y, 1, 0, 3), 0);
        due("no fire", cell(y, 1, 0, 4), 0);
        y.hour(0, 0);
        due("a twentieth of 200 in the next", cell(y, 1, 0, 3), 10);
    }

    private static void withoutWoodAndCoalNone() {
        sentence("Terms 2, part 3", "and has WOOD or COAL");
        CharcoalYard empty = new CharcoalYard();
        empty.clamp(2, 1);
        empty.lay(0, 0, 0);
        empty.light();
        work(empty, 3);
        due("a cell that was never laid", cell(empty, 1, 0, 3), 0);
        CharcoalYard burnt = litRow(2, 0);
        work(burnt, 10);
        due("ring 1 has fire", cell(burnt, 1, 0, 4), 1);
        work(burnt, 2, 0, 3);
        dueCell("the middle is burnt down", burnt, 0, 0, 0, 0, 0, 1000, 0);
        due("ring 1 burns still", cell(burnt, 1, 0, 4), 1);
        burnt.hour(0, 0);
        due("burnt down, it does not catch", cell(burnt, 0, 0, 4), 0);
    }

    /** With wind the middle has air 3 and turns to coal; without it has none and cools, while ring 1 burns on. */
    private static void withCoalAlone() {
        sentence("Terms 2, part 3", "has WOOD or COAL: HEAT more");
        CharcoalYard y = new CharcoalYard();
        y.clamp(5, 1);
        y.lay(0, 0, 0);
        y.lay(1, 0, 2);
        y.hole(4, 0);
        y.open(0, true);
        y.light();
        work(y, 10, 0, 3);
        dueCell("coal alone", y, 0, 0, 0, 25, 0, 1000, 1);
        due("ring 1 has fire", cell(y, 1, 0, 4), 1);
        work(y, 20);
        dueCell("cold", y, 0, 0, 0, 25, 0, 0, 0);
        long heat = cell(y, 1, 0, 3);
        due("ring 1 burns still", cell(y, 1, 0, 4), 1);
        y.hour(0, 0);
        due("warmed", cell(y, 0, 0, 3), heat / 20);
        work(y, 12);
        due("caught again", cell(y, 0, 0, 4), 1);
    }

    /**
     * Birch in ring 0 turns to 16 coal with air 2, of which air 4 leaves 1; without air it cools, while ring 1 burns on.
     * A rule keeps it covered, so that no breach gives more air.
     */
    private static void withOneCoal() {
        sentence("Terms 2, part 3", "has WOOD or COAL");
        CharcoalYard y = new CharcoalYard();
        y.clamp(5, 1);
        y.lay(0, 0, 1);
        y.lay(1, 0, 2);
        y.hole(4, 0);
        y.hole(3, 0);
        y.open(0, true);
        tell(y, "c<4:^");
        y.light();
        work(y, 10, 0, 2);
        dueCell("16 coal", y, 0, 0, 0, 16, 0, 1000, 1);
        y.open(1, true);
        work(y, 3, 0, 3);
        dueCell("1 coal", y, 0, 0, 0, 1, 0, 1000, 1);
        y.open(1, false);
        work(y, 20);
        dueCell("cold", y, 0, 0, 0, 1, 0, 0, 0);
        long heat = cell(y, 1, 0, 3);
        due("ring 1 burns still", cell(y, 1, 0, 4), 1);
        y.hour(0, 0);
        due("warmed", cell(y, 0, 0, 3), heat / 20);
    }

    /** The two neighbours of the corner catch fire in hour 8, both with heat 334. */
    private static void theSumIsCut() {
        sentence("Terms 2, part 3", "a twentieth (cut) of the sum of the HEAT");
        CharcoalYard y = laid(2, 2, 0);
        y.hole(1, 1);
        y.open(0, true);
        y.light();
        work(y, 9);
        due("beside", cell(y, 1, 0, 3), 334);
        due("above", cell(y, 0, 1, 3), 334);
        due("the corner", cell(y, 1, 1, 3), 0);
        y.hour(0, 0);
        due("a twentieth of 668", cell(y, 1, 1, 3), 33);
    }

    private static void heatAheadOfPartTwo() {
        sentence("Terms 2, part 3", "that its NEIGHBOURS with FIRE had ahead of 2");
        CharcoalYard rising = litRow(2, 0);
        rising.hour(0, 0);
        due("of 500", cell(rising, 1, 0, 3), 25);
        rising.hour(0, 0);
        due("of 500, though it has 620 behind 2", cell(rising, 1, 0, 3), 50);
        rising.hour(0, 0);
        due("of 620", cell(rising, 1, 0, 3), 81);
        CharcoalYard falling = laid(2, 1, 0);
        falling.light();
        work(falling, 10);
        due("25, 22, 20, 17, 15, 12, 10, 7, 5, and 2 of the hour in which it went out", cell(falling, 1, 0, 3), 135);
        falling.hour(0, 0);
        due("no fire, no heat more", cell(falling, 1, 0, 3), 135);
    }

    private static void neighboursWithFireAlone() {
        sentence("Terms 2, part 3", "its NEIGHBOURS with FIRE");
        CharcoalYard y = litRow(3, 2);
        work(y, 11, 9, 0);
        due("ring 1 is hot, without fire", cell(y, 1, 0, 3), 275);
        due("ring 2 has nothing of it", cell(y, 2, 0, 3), 0);
        y.hour(9, 0);
        due("ring 1 has fire", cell(y, 1, 0, 4), 1);
        due("ring 2 has nothing of it in the same hour", cell(y, 2, 0, 3), 0);
        y.hour(9, 0);
        due("a twentieth of 300", cell(y, 2, 0, 3), 15);
    }

    // ---- Terms 2, parts 4 and 5

    private static void sinking() {
        belowHalf();
        coverNotBelowNought();
        sinksEachHour();
        emptyOnesDoNotSink();
    }

    private static void belowHalf() {
        sentence("Terms 2, part 4", "if WOOD and twice COAL together are below half of FULL, COVER is one less");
        CharcoalYard y = litRow(2, 0);
        y.cover(1, 0, 9);
        work(y, 10);
        dueCell("25 coal of 100: half", y, 0, 0, 0, 25, 0, 1000, 1, 5);
        y.hour(0, 1);
        dueCell("20 coal: below half", y, 0, 0, 0, 20, 0, 1000, 1, 4);
        CharcoalYard wood = litOne(0);
        work(wood, 4);
        dueCell("52 wood", wood, 0, 0, 52, 0, 0, 980, 1, 5);
        wood.hour(0, 0);
        dueCell("36 wood", wood, 0, 0, 36, 0, 0, 1000, 1, 4);
    }

    private static void coverNotBelowNought() {
        sentence("Terms 2, part 4", "COVER is one less, not below 0");
        CharcoalYard y = litOne(0);
        y.cover(0, 0, 1);
        work(y, 5);
        due("0", cell(y, 0, 0, 5), 0);
        y.hour(0, 0);
        due("still", cell(y, 0, 0, 5), 0);
    }

    private static void sinksEachHour() {
        sentence("Terms 2, part 4", "(Each HOUR.)");
        CharcoalYard y = litOne(0);
        work(y, 8);
        dueCell("burnt down, out", y, 0, 0, 0, 0, 0, 1000, 0, 1);
        y.cover(0, 0, 9);
        for (int left = 8; left >= 0; left--) {
            y.hour(0, 0);
            due("sinks without fire, too", cell(y, 0, 0, 5), left);
        }
    }

    private static void emptyOnesDoNotSink() {
        sentence("Terms 2, part 4", "Of each CELL OUTSIDE with FULL above 0");
        CharcoalYard y = new CharcoalYard();
        y.clamp(2, 2);
        y.lay(0, 0, 0);
        y.hole(1, 0);
        y.open(0, true);
        y.light();
        work(y, 10);
        work(y, 8, 0, 3);
        due("the middle was below half for long", y.all(1) + y.all(2), 0);
        due("it has no cover", cell(y, 0, 0, 5), -1);
        due("it is no breach", y.breach(0, 0), -1);
        y.open(0, false);
        y.hour(0, 0);
        due("it gives no air", cell(y, 0, 0, 6), 0);
        for (int i = 1; i < 4; i++) {
            due("cover of an empty one", cell(y, i / 2, i % 2, 5), 5);
        }
    }

    private static void rain() {
        wetAtMost();
        theLastHeightAlone();
    }

    private static void wetAtMost() {
        sentence("Terms 2, part 5", "WET is RAIN * SHARE more, at most 100 * SHARE");
        CharcoalYard y = laid(8, 1, 2);
        y.light();
        work(y, 4, 9, 0);
        due("60 and 36", cell(y, 0, 0, 2), 96);
        due("15 times as much", cell(y, 7, 0, 2), 1440);
        y.hour(4, 0);
        due("100", cell(y, 0, 0, 2), 100);
        due("1500", cell(y, 7, 0, 2), 1500);
        y.hour(1, 0);
        due("at most 100", cell(y, 0, 0, 2), 100);
        due("at most 1500", cell(y, 7, 0, 2), 1500);
        y.hour(0, 0);
        due("no rain", cell(y, 0, 0, 2), 100);
    }

    private static void theLastHeightAlone() {
        sentence("Terms 2, part 5", "Of each CELL of the last HEIGHT");
        CharcoalYard y = new CharcoalYard();
        y.clamp(3, 3);
        y.lay(0, 0, 0);
        y.light();
        y.hour(3, 0);
        for (int ring = 0; ring < 3; ring++) {
            due("the last height, empty", cell(y, ring, 2, 2), 3 * (2 * ring + 1));
            due("the one below", cell(y, ring, 1, 2), 0);
            due("the ground", cell(y, ring, 0, 2), ring == 0 ? 20 : 0);
        }
    }

    // ---- Terms 2, part 6

    private static void seen() {
        smokeSeen();
        bareSeen();
        leastCoverSeen();
        unseenIsTheWorst();
        aheadOfAllRules();
        oneByOne();
        hourAtMost();
    }

    private static void smokeSeen() {
        sentence("Terms 2, part 6", "s the SMOKE of this HOUR");
        CharcoalYard y = litOne(0);
        tell(y, "s=0:^");
        tell(y, "s=12:^");
        work(y, 2);
        due("0 of a wet hour", y.told(0, 3), 1);
        due("12, not what there was in all or ahead", y.told(1, 3), 2);
        y.hour(0, 0);
        due("12 again, not 24", y.told(2, 3), 2);
    }

    private static void bareSeen() {
        sentence("Terms 2, part 6", "k the CELLS OUTSIDE with COVER 0");
        CharcoalYard y = laid(2, 2, 0);
        tell(y, "k=0:+0");
        tell(y, "k=3:+0");
        y.light();
        y.hour(0, 0);
        y.cover(0, 1, 0);
        y.cover(1, 0, 0);
        y.cover(1, 1, 0);
        y.hour(0, 0);
        due("none", y.told(0, 3), 1);
        due("all three, not the one inside", y.told(1, 3), 2);
    }

    private static void leastCoverSeen() {
        sentence("Terms 2, part 6", "c the least COVER");
        CharcoalYard y = laid(2, 2, 0);
        tell(y, "c=5:+0");
        tell(y, "c=9:+0");
        tell(y, "c=0:+0");
        y.light();
        y.cover(0, 1, 9);
        y.cover(1, 0, 9);
        y.hour(0, 0);
        y.cover(1, 1, 9);
        y.hour(0, 0);
        y.cover(1, 0, 0);
        y.hour(0, 0);
        due("5 of 9, 9, 5", y.told(0, 3), 1);
        due("9 of 9, 9, 9", y.told(1, 3), 2);
        due("0 of 9, 0, 9", y.told(2, 3), 4);
    }

    private static void unseenIsTheWorst() {
        sentence("Terms 2, part 6", "if the HOUR is not WATCHED s is 9999, k 99, c 0");
        CharcoalYard y = laid(1, 1, 0);
        y.watch(0);
        String[] so = {"s=9999:+0", "k=99:+0", "c=0:+0", "s>9998&s<10000&k>98&k<100&c<1:+0", "t=0&o=0&r=7&w=2:+0"};
        String[] notSo = {"s=0:+0", "k=0:+0", "c=5:+0"};
        for (String text : so) {
            tell(y, text);
        }
        for (String text : notSo) {
            tell(y, text);
        }
        y.light();
        y.hour(7, 2);
        due("not watched; t, o, r, w are as they are", y.told(0, 3), 0b00011111);
        due("what was is told all the same", y.told(0, 5), 0);
    }

    private static void aheadOfAllRules() {
        sentence("Terms 2, part 6", "SEEN, ahead of all RULES");
        CharcoalYard y = laid(1, 1, 0);
        y.cover(0, 0, 0);
        tell(y, "k=1:^");
        tell(y, "k=1&c=0:^");
        tell(y, "k=0:^");
        tell(y, "c>0:^");
        y.light();
        y.hour(0, 0);
        due("the first one's act is not seen", y.told(0, 3), 0b0011);
        due("3 and 3", cell(y, 0, 0, 5), 6);
    }

    private static void oneByOne() {
        sentence("Terms 2, part 6", "RULES from 0 on, one by one: each that holds acts");
        CharcoalYard y = laid(1, 1, 0);
        y.hole(0, 0);
        String[] texts = {"o=0:+0", "o=1:-0", "o=0:+0", "o=1:~", "o=1:+0", "o=0:+0", "o=0:-0", "o=1:+0"};
        for (String text : texts) {
            tell(y, text);
        }
        y.light();
        y.hour(0, 0);
        due("each behind the one ahead", y.told(0, 3), 0b10101111);
        due("the last one's act stays", y.count(3), 1);
    }

    private static void hourAtMost() {
        sentence("Terms 2", "HOUR is one more then (0 at first, at most 300)");
        CharcoalYard y = laid(1, 1, 0);
        tell(y, "t=299:^");
        due("not lit", y.count(5), 0);
        y.light();
        due("lit", y.count(5), 0);
        work(y, 299);
        due("299", y.count(5), 299);
        due("the last one", y.hour(0, 0), 0);
        due("300", y.count(5), 300);
        due("its number", y.told(299, 3), 1);
        due("one more", y.hour(0, 0), -1);
        due("still", y.count(5), 300);
        due("none such", y.told(300, 0), -1);
    }

    // ---- Terms 2, the rules' texts

    private static void ruleWords() {
        fortySigns();
        digits();
        letters();
        relations();
        betweenAsks();
        actSigns();
        noBlanks();
    }

    private static void fortySigns() {
        sentence("Terms 2", "RULES 0 .. (at most 8): a text of at most 40 signs");
        String asks = "s>0&k>0&c>0&t>0&o>0&r>0&w>0&s>0&k>0";
        CharcoalYard y = new CharcoalYard();
        due("40 signs", tell(y, asks + ":+123"), 0);
        due("41 signs", tell(y, asks + ":+1234"), -41);
        for (int i = 1; i < 8; i++) {
            due("rule " + i, tell(y, "s>0:^"), i);
        }
        due("a ninth", tell(y, "s>0:^"), -100);
        due("rules", y.count(4), 8);
    }

    private static void digits() {
        sentence("Terms 2", "a NUMBER of 1 to 5 digits");
        String[] good = {"s<0:+0", "s<00000:+00000", "s<99999:-99999", "s<12345:-1"};
        for (String text : good) {
            due(text, tell(new CharcoalYard(), text), 0);
        }
        due("no digit in an ask", tell(new CharcoalYard(), "s<:+0"), -3);
        due("six digits in an ask", tell(new CharcoalYard(), "s<000000:+0"), -8);
        due("no digit in an act", tell(new CharcoalYard(), "s<1:+"), -6);
        due("six digits in an act", tell(new CharcoalYard(), "s<1:+000000"), -11);
        due("a sign ahead", tell(new CharcoalYard(), "s<-1:+0"), -3);
        CharcoalYard y = laid(1, 1, 0);
        y.watch(0);
        y.hole(0, 0);
        tell(y, "s<99999&s>09998:+00000");
        y.light();
        y.hour(0, 0);
        due("five digits hold", y.told(0, 3), 1);
        due("five digits name a hole", y.count(3), 1);
    }

    private static void letters() {
        sentence("Terms 2", "one of the letters s k c t o r w");
        for (char letter = 0; letter < 256; letter++) {
            boolean is = "skctorw".indexOf(letter) >= 0;
            due("letter " + (int) letter, tell(new CharcoalYard(), letter + ">1:^"), is ? 0 : -1);
        }
    }

    private static void relations() {
        sentence("Terms 2", "one of &lt; &gt; =");
        for (char sign = 0; sign < 256; sign++) {
            boolean is = "<>=".indexOf(sign) >= 0;
            due("sign " + (int) sign, tell(new CharcoalYard(), "t" + sign + "1:^"), is ? 0 : -2);
        }
        CharcoalYard y = laid(1, 1, 0);
        tell(y, "t<1:+0");
        tell(y, "t>1:+0");
        tell(y, "t=1:+0");
        y.light();
        work(y, 3);
        int[] want = {0b001, 0b100, 0b010};
        for (int hour = 0; hour < 3; hour++) {
            due("below, above, equal in hour " + hour, y.told(hour, 3), want[hour]);
        }
    }

    private static void betweenAsks() {
        sentence("Terms 2", "ASKS with &amp; between, a colon, an ACT");
        for (char sign = 0; sign < 256; sign++) {
            boolean goesOn = sign == '&' || sign >= '0' && sign <= '9';
            int want = sign == ':' ? 0 : goesOn ? -5 : -4;
            due("sign " + (int) sign, tell(new CharcoalYard(), "t>1" + sign + "~"), want);
        }
        CharcoalYard y = laid(1, 1, 0);
        tell(y, "t=0&t=1:+0");
        tell(y, "t<2&t>0&r=0:+0");
        y.light();
        work(y, 2);
        due("one of two is so", y.told(0, 3), 0);
        due("all three are so", y.told(1, 3), 2);
    }

    private static void actSigns() {
        sentence("Terms 2", "ACT: + or - and a NUMBER");
        for (char sign = 0; sign < 256; sign++) {
            int want = sign == '+' || sign == '-' ? 0 : sign == '^' || sign == '~' ? -6 : -5;
            due("sign " + (int) sign, tell(new CharcoalYard(), "t>1:" + sign + "7"), want);
        }
    }

    private static void noBlanks() {
        sentence("Terms 2", "No blanks.");
        String text = "t>1&r=2:+3";
        for (int at = 0; at <= text.length(); at++) {
            String blank = text.substring(0, at) + " " + text.substring(at);
            due("a blank at " + at, tell(new CharcoalYard(), blank), -1 - at);
        }
    }

    // ---- Terms 2, what a rule asks of the hour, and its acts

    private static void acts() {
        hourAheadOfBeingOneMore();
        openOnesOfNow();
        rainAndWindOfThisHour();
        noneSuchNothing();
        leastOfEqualOnes();
        threeMoreAtMostNine();
        allAreShut();
    }

    private static void hourAheadOfBeingOneMore() {
        sentence("Terms 2", "t: HOUR (ahead of being one more)");
        CharcoalYard y = laid(1, 1, 0);
        tell(y, "t=0:^");
        y.light();
        work(y, 2);
        due("the first hour", y.told(0, 3), 1);
        due("the second hour", y.told(1, 3), 0);
    }

    private static void openOnesOfNow() {
        sentence("Terms 2", "o: OPEN HOLES of now");
        CharcoalYard y = laid(1, 1, 0);
        for (int i = 0; i < 12; i++) {
            y.hole(0, 0);
            y.open(i, true);
        }
        tell(y, "o=12:-0");
        tell(y, "o=11:-1");
        tell(y, "o=12:-2");
        tell(y, "o=10:~");
        tell(y, "o=0:+9");
        y.light();
        y.hour(0, 0);
        due("12, 11, 10, 10, 0", y.told(0, 3), 0b11011);
        due("one is open", y.count(3), 1);
    }

    private static void rainAndWindOfThisHour() {
        sentence("Terms 2", "r, w: RAIN, WIND of this HOUR");
        CharcoalYard y = laid(1, 1, 0);
        tell(y, "r=9:+0");
        tell(y, "w=3:+0");
        tell(y, "r=0&w=0:+0");
        y.light();
        y.hour(9, 0);
        y.hour(0, 3);
        y.hour(0, 0);
        int[] want = {0b001, 0b010, 0b100};
        for (int hour = 0; hour < 3; hour++) {
            due("hour " + hour, y.told(hour, 3), want[hour]);
        }
        y.again(2, 9, 3);
        due("told anew", y.told(2, 3), 0b011);
    }

    private static void noneSuchNothing() {
        sentence("Terms 2", "that HOLE is OPEN, SHUT (none such: nothing)");
        CharcoalYard y = laid(1, 1, 0);
        for (int i = 0; i < 2; i++) {
            y.hole(0, 0);
        }
        y.open(0, true);
        String[] texts = {"t<9:+2", "t<9:-2", "t<9:+12", "t<9:-12", "t<9:+99999", "t<9:-99999", "t=1:+1", "t=1:-0"};
        for (String text : texts) {
            due(text, tell(y, text) >= 0, true);
        }
        y.light();
        y.hour(0, 0);
        due("nothing is opened or shut", y.count(3), 1);
        due("they hold", y.told(0, 3), 0b00111111);
        y.hour(0, 0);
        due("hole 1 for hole 0", y.count(3), 1);
        y.open(0, false);
        due("hole 1 is the open one", y.count(3), 1);
        due("cover is as it was", cell(y, 0, 0, 5), 5);
    }

    private static void leastOfEqualOnes() {
        sentence("Terms 2", "COVER of the CELL OUTSIDE with the least (of equal ones the least RING, then HEIGHT)");
        CharcoalYard y = laid(3, 3, 0);
        tell(y, "t<9:^");
        y.cover(0, 2, 6);
        y.light();
        int[][] order = {{1, 2}, {2, 0}, {2, 1}, {2, 2}, {0, 2}, {1, 2}};
        int[] behind = {8, 8, 8, 8, 9, 9};
        for (int i = 0; i < order.length; i++) {
            y.hour(0, 0);
            due("cover of " + order[i][0] + ", " + order[i][1], cell(y, order[i][0], order[i][1], 5), behind[i]);
        }
        y.cover(2, 2, 0);
        y.hour(0, 0);
        due("the least, though the last", cell(y, 2, 2, 5), 3);
        CharcoalYard flat = laid(2, 1, 0);
        tell(flat, "t=0:^");
        flat.light();
        flat.hour(0, 0);
        due("the middle, if it is outside", cell(flat, 0, 0, 5), 8);
        due("and no other", cell(flat, 1, 0, 5), 5);
    }

    private static void threeMoreAtMostNine() {
        sentence("Terms 2", "is 3 more, at most 9");
        int[] covers = {0, 5, 6, 7, 9};
        int[] behind = {3, 8, 9, 9, 9};
        for (int i = 0; i < covers.length; i++) {
            CharcoalYard y = laid(1, 1, 0);
            y.cover(0, 0, covers[i]);
            tell(y, "t=0:^");
            y.light();
            y.hour(0, 0);
            due("cover of " + covers[i], cell(y, 0, 0, 5), behind[i]);
        }
    }

    private static void allAreShut() {
        sentence("Terms 2", "~: all HOLES are SHUT");
        CharcoalYard y = laid(1, 1, 0);
        tell(y, "t=0:~");
        for (int i = 0; i < 12; i++) {
            y.hole(0, 0);
            y.open(i, true);
        }
        y.light();
        due("twelve are open", y.count(3), 12);
        y.hour(0, 0);
        due("all are shut", y.count(3), 0);
    }

    // ---- Terms 3

    private static void time() {
        litTill();
        keptWithTheHour();
        atMostAHundred();
        fromTheHourThatIs();
        litAgainFromTheFirst();
    }

    private static void litTill() {
        sentence("Terms 3", "LIT: from light() on, till rake() or clamp()");
        CharcoalYard y = laid(1, 1, 0);
        due("ahead of light()", y.count(6), 0);
        y.light();
        due("from light() on", y.count(6), 1);
        work(y, 12);
        due("without fire, still", y.count(6), 1);
        due("a clamp that is refused", y.clamp(0, 0), false);
        due("still", y.count(6), 1);
        y.rake();
        due("behind rake()", y.count(6), 0);
        y.lay(0, 0, 0);
        y.light();
        due("lit again", y.count(6), 1);
        y.clamp(1, 1);
        due("behind clamp()", y.count(6), 0);
    }

    private static void keptWithTheHour() {
        sentence("Terms 3", "HOLES opened, shut, COVER laid while it is LIT: kept with the HOUR that is then");
        CharcoalYard y = laid(1, 1, 0);
        y.hole(0, 0);
        y.open(0, true);
        y.cover(0, 0, 7);
        y.light();
        due("ahead of light() none is kept", y.count(8), 0);
        work(y, 2);
        y.open(0, false);
        y.cover(0, 0, 8);
        work(y, 2);
        y.open(0, true);
        due("opened, shut, laid", y.count(8), 3);
        y.again(0, 0, 0);
        int[] smoke = {0, 12, 0, 0};
        for (int hour = 0; hour < 4; hour++) {
            due("smoke of hour " + hour, y.told(hour, 2), smoke[hour]);
        }
        due("open in the hour that is", y.count(3), 1);
        due("cover", cell(y, 0, 0, 5), 8);
    }

    private static void atMostAHundred() {
        sentence("Terms 3", "(at most 100 of them)");
        CharcoalYard y = laid(1, 1, 0);
        y.light();
        for (int i = 0; i < 100; i++) {
            due("act " + i, y.cover(0, 0, i % 10), true);
        }
        due("one more", y.cover(0, 0, 3), false);
        due("kept", y.count(8), 100);
        due("the last of the hundred stays", cell(y, 0, 0, 5), 9);
    }

    private static void fromTheHourThatIs() {
        sentence("Terms 3", "A RULE that is told while it is LIT acts from the HOUR on that is then");
        CharcoalYard y = laid(1, 1, 0);
        tell(y, "t<99:+0");
        y.light();
        due("told in hour 0", tell(y, "t<99:+0"), 1);
        work(y, 2);
        due("told in hour 2", tell(y, "t<99:+0"), 2);
        work(y, 2);
        due("told in hour 4", tell(y, "t<99:+0"), 3);
        int[] want = {0b011, 0b011, 0b111, 0b111};
        for (int hour = 0; hour < 4; hour++) {
            due("hour " + hour, y.told(hour, 3), want[hour]);
        }
        y.again(0, 1, 1);
        for (int hour = 0; hour < 4; hour++) {
            due("worked again, hour " + hour, y.told(hour, 3), want[hour]);
        }
        y.hour(0, 0);
        due("hour 4", y.told(4, 3), 0b1111);
    }

    private static void litAgainFromTheFirst() {
        sentence("Terms 3", "(when it is LIT again, from the first one)");
        CharcoalYard y = laid(1, 1, 0);
        y.light();
        work(y, 3);
        tell(y, "t<99:+0");
        y.rake();
        y.lay(0, 0, 0);
        y.light();
        y.hour(0, 0);
        due("behind rake()", y.told(0, 3), 0b01);
        tell(y, "t<99:+0");
        y.clamp(1, 1);
        y.lay(0, 0, 0);
        y.light();
        y.hour(0, 0);
        due("behind clamp()", y.told(0, 3), 0b11);
    }
}
