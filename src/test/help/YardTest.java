import java.util.NoSuchElementException;

/** What the tests by hand share: answers held against those that are due, and yards made ready. */
abstract class YardTest {
    static final long THROWN = Long.MIN_VALUE;
    static final int MIN = Integer.MIN_VALUE;
    static final int MAX = Integer.MAX_VALUE;
    private static String tested = "";
    private static int askedOfIt = 0;
    private static int sentences = 0;
    private static int asked = 0;
    private static int wrong = 0;

    /** From here on answers are asked for one sentence, told in the document's own words. */
    static void sentence(String where, String words) {
        endSentence();
        tested = where + ", '" + words + "'";
        sentences++;
    }

    // A sentence for which nothing is asked would seem tested and is not.
    private static void endSentence() {
        if (sentences > 0 && askedOfIt == 0) {
            wrong++;
            System.out.println(tested + ": nothing was asked");
        }
        askedOfIt = 0;
    }

    static void due(String call, long got, long want) {
        asked++;
        askedOfIt++;
        if (got != want) {
            wrong++;
            System.out.println(tested + ": " + call + " answered " + shown(got) + ", due is " + shown(want));
        }
    }

    static void due(String call, boolean got, boolean want) {
        due(call, got ? 1 : 0, want ? 1 : 0);
    }

    static void due(int promise, String call, long got, long want) {
        tested = "promise " + promise;
        due(call, got, want);
    }

    static void due(int promise, String call, boolean got, boolean want) {
        due(promise, call, got ? 1 : 0, want ? 1 : 0);
    }

    /** What 0, 1, .. of a cell at once. */
    static void dueCell(String when, CharcoalYard y, int ring, int height, int... want) {
        for (int what = 0; what < want.length; what++) {
            due(when + ": cell(" + ring + ", " + height + ", " + what + ")", cell(y, ring, height, what), want[what]);
        }
    }

    /** What 0, 1, .. of count() at once. */
    static void dueCounts(String when, CharcoalYard y, int... want) {
        for (int what = 0; what < want.length; what++) {
            due(when + ": count(" + what + ")", y.count(what), want[what]);
        }
    }

    private static String shown(long answer) {
        return answer == THROWN ? "NoSuchElementException" : Long.toString(answer);
    }

    /** Prints what came of it; ends with exit code 1 if an answer was not as due. */
    static void close() {
        endSentence();
        String of = sentences == 0 ? "" : " for " + sentences + " sentences";
        System.out.println(asked + " answers asked" + of + ", " + wrong + " are not as due");
        if (wrong != 0) {
            System.exit(1);
        }
    }

    static long cell(CharcoalYard y, int ring, int height, int what) {
        try {
            return y.cell(ring, height, what);
        } catch (NoSuchElementException e) {
            return THROWN;
        }
    }

    static long stand(CharcoalYard y, int wood, int what) {
        try {
            return y.stand(wood, what);
        } catch (NoSuchElementException e) {
            return THROWN;
        }
    }

    static void write(CharcoalYard y, String text) {
        y.end(0);
        for (int at = 0; at < text.length(); at += 4) {
            int v = 0;
            for (int i = at; i < at + 4; i++) {
                v = v << 8 | (i < text.length() ? text.charAt(i) : 0);
            }
            y.sign(v);
        }
        y.end(text.length());
    }

    static int tell(CharcoalYard y, String text) {
        write(y, text);
        return y.rule();
    }

    static CharcoalYard laid(int rings, int heights, int kind) {
        CharcoalYard y = new CharcoalYard();
        y.clamp(rings, heights);
        for (int ring = 0; ring < rings; ring++) {
            for (int height = 0; height < heights; height++) {
                y.lay(ring, height, kind);
            }
        }
        return y;
    }

    /** Cells of a kind in a row of rings on the ground, with one open hole at the last, lit. */
    static CharcoalYard litRow(int rings, int kind) {
        CharcoalYard y = laid(rings, 1, kind);
        y.hole(rings - 1, 0);
        y.open(0, true);
        y.light();
        return y;
    }

    /** One cell of a kind with one open hole, lit. */
    static CharcoalYard litOne(int kind) {
        return litRow(1, kind);
    }

    static void work(CharcoalYard y, int hours) {
        work(y, hours, 0, 0);
    }

    static void work(CharcoalYard y, int hours, int rain, int wind) {
        for (int i = 0; i < hours; i++) {
            y.hour(rain, wind);
        }
    }
}
