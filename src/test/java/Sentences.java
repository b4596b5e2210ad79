/** What the tests share that go through the document sentence by sentence. */
abstract class Sentences {
    static final int NONE = -1, BAD = -2, STATE = -3, FULL = -4, WITHOUT = -5;
    static final int NOTHING = -11, CAST = -12, PLACE = -13, SIZE = -14;
    static final long NO = Long.MIN_VALUE;
    static final int LEAST = Integer.MIN_VALUE, MOST = Integer.MAX_VALUE;
    /** The sorts of tapes. */
    static final int BYTES = 0, SHORTS = 1, INTS = 2, LONGS = 3, BOOLEANS = 4;

    private static Check check = new Check("a test");
    private static String sentence = "";

    static void begin(String test) {
        check = new Check(test);
    }

    /** The words of the document that the answers that follow are held to. */
    static void sentence(String words) {
        sentence = words;
    }

    static void due(String call, long got, long want) {
        check.due(sentence + ": " + call, got, want);
    }

    static void holds(String what, boolean good) {
        check.holds(sentence + ": " + what, good);
    }

    static void finish() {
        check.finish();
    }

    /** Looks at what is told of the plate, the kerf, the parts, the defects. */
    static void stands(PlateCuts x, int wide, int high, int kerf, int parts, int defects) {
        due("told(0)", x.told(0), wide);
        due("told(1)", x.told(1), high);
        due("told(2)", x.told(2), kerf);
        due("told(3)", x.told(3), parts);
        due("told(4)", x.told(4), defects);
    }

    static int feedAll(PlateCuts x, String signs) {
        int last = 0;
        for (int i = 0; i < signs.length(); i++) {
            last = x.feed(signs.charAt(i));
        }
        return last;
    }

    static int readAll(PlateCuts x, String signs) {
        feedAll(x, signs);
        return x.read();
    }

    /** A new object behind this set-up, all of whose clauses must be done. */
    static PlateCuts from(String setup) {
        PlateCuts x = new PlateCuts();
        int clauses = setup.split(";").length;
        check.due("the clauses done of " + setup, readAll(x, setup), clauses);
        return x;
    }

    /** A tape becomes a row of longs, these. */
    static void tell(PlateCuts x, int tape, long... items) {
        due("tape(" + tape + ", LONGS, " + items.length + ")", x.tape(tape, LONGS, items.length), 1);
        for (int i = 0; i < items.length; i++) {
            due("item(" + tape + ", " + i + ", " + items[i] + ")", x.item(tape, i, items[i]), 1);
        }
    }

    /** The first items of a tape, and none behind them. */
    static void holdsJust(PlateCuts x, int tape, long... items) {
        for (int i = 0; i < items.length; i++) {
            due("peek(" + tape + ", " + i + ")", x.peek(tape, i), items[i]);
        }
        due("peek(" + tape + ", " + items.length + ")", x.peek(tape, items.length), NO);
    }

    /** The nodes of the cuts, each by its eight facts. */
    static void looksSo(PlateCuts x, int[][] nodes) {
        due("told(6)", x.told(6), nodes.length);
        for (int node = 0; node < nodes.length; node++) {
            for (int what = 0; what < nodes[node].length; what++) {
                due("node(" + node + ", " + what + ")", x.node(node, what), nodes[node][what]);
            }
        }
    }
}
