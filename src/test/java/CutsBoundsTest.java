/** Pieces, BEST and THE CUTS (Terms 1, promises 12 to 16) at their bounds, a sentence a test. */
final class CutsBoundsTest extends Sentences {
    private static final int WASTE = 0, PART = 1, UPRIGHT = 2, LEVEL = 3;
    private static final int KIND = 0, NUMBER = 5;

    public static void main(String[] args) {
        begin("CutsBoundsTest");
        piecesOnThePlate();
        farPieces();
        justAsWideAndHigh();
        turnedOnlyIfItMay();
        hasNoDefect();
        leastPartOfAny();
        bestIsNoLessThanNothing();
        greatestWorthOfSeveral();
        firstAndLastUprightCut();
        firstAndLastLevelCut();
        noCutAtNothing();
        oneSquareWide();
        kerfLeavesNothing();
        kerfIsNobodys();
        waste();
        partAheadOfCut();
        leastOfSeveral();
        uprightAheadOfLevel();
        leastUpright();
        leastLevel();
        numbersOfNodes();
        onePieceLeftIsOneNode();
        mostNodes();
        toldOfWhat();
        toldOfTheSmallest();
        wastedAllAndNone();
        deepest();
        nodeOfWhich();
        whereThereIsNoNumber();
        pictureOfEachSquare();
        pictureBeyond();
        usedTimes();
        finish();
    }

    private static void piecesOnThePlate() {
        sentence("A PIECE: all squares from x, y on, so wide, so high, all on THE PLATE; best, is: NONE: there is no such");
        for (int x = -1; x <= 4; x++) {
            for (int y = -1; y <= 3; y++) {
                PlateCuts a = from("s32;p711");
                for (int wide = -1; wide <= 4; wide++) {
                    for (int high = -1; high <= 3; high++) {
                        boolean there = x >= 0 && y >= 0 && wide >= 1 && high >= 1 && x + wide <= 3 && y + high <= 2;
                        String of = "(" + x + ", " + y + ", " + wide + ", " + high + ")";
                        due("best" + of, a.best(x, y, wide, high), there ? 0 : NONE);
                        due("is" + of, a.is(x, y, wide, high), there ? WITHOUT : NONE);
                    }
                }
            }
        }
    }

    private static void farPieces() {
        sentence("best, is: NONE, where x and WIDE, or y and HIGH, together wrap around");
        PlateCuts a = from("s77;p111");
        int[] far = {LEAST, LEAST + 1, LEAST + 7, -8, 8, 15, 256, MOST - 7, MOST - 1, MOST};
        for (int v : far) {
            due("best(v, 0, 1, 1) of " + v, a.best(v, 0, 1, 1), NONE);
            due("best(0, v, 1, 1) of " + v, a.best(0, v, 1, 1), NONE);
            due("best(0, 0, v, 1) of " + v, a.best(0, 0, v, 1), NONE);
            due("best(0, 0, 1, v) of " + v, a.best(0, 0, 1, v), NONE);
            due("is(v, 0, 1, 1) of " + v, a.is(v, 0, 1, 1), NONE);
            due("is(0, v, 1, 1) of " + v, a.is(0, v, 1, 1), NONE);
            due("is(0, 0, v, 1) of " + v, a.is(0, 0, v, 1), NONE);
            due("is(0, 0, 1, v) of " + v, a.is(0, 0, 1, v), NONE);
            for (int w : far) {
                due("best(v, 1, w, 1) of " + v + ", " + w, a.best(v, 1, w, 1), NONE);
                due("best(1, v, 1, w) of " + v + ", " + w, a.best(1, v, 1, w), NONE);
                due("is(v, 1, w, 1) of " + v + ", " + w, a.is(v, 1, w, 1), NONE);
                due("is(1, v, 1, w) of " + v + ", " + w, a.is(1, v, 1, w), NONE);
            }
        }
    }

    private static void justAsWideAndHigh() {
        sentence("It IS a PART, if it is just as WIDE and HIGH");
        for (int partWide = 1; partWide <= 7; partWide++) {
            for (int partHigh = 1; partHigh <= 7; partHigh++) {
                PlateCuts a = from("s77");
                a.part(partWide, partHigh, 9, false);
                for (int wide = 1; wide <= 7; wide++) {
                    for (int high = 1; high <= 7; high++) {
                        due(partWide + " by " + partHigh + ": is(7 - w, 7 - h, w, h) of " + wide + ", " + high,
                            a.is(7 - wide, 7 - high, wide, high), wide == partWide && high == partHigh ? 0 : WITHOUT);
                    }
                }
            }
        }
    }

    private static void turnedOnlyIfItMay() {
        sentence("(or as the PART TURNED, if it may be)");
        int[][] parts = {{1, 3}, {3, 1}, {2, 5}, {7, 6}, {1, 7}, {4, 4}};
        for (int[] part : parts) {
            PlateCuts a = from("s77");
            a.part(part[0], part[1], 9, true);
            for (int wide = 1; wide <= 7; wide++) {
                for (int high = 1; high <= 7; high++) {
                    boolean asItIs = wide == part[0] && high == part[1];
                    boolean turned = wide == part[1] && high == part[0];
                    a.turn(0, true);
                    due(part[0] + " by " + part[1] + " may: is of " + wide + ", " + high, a.is(0, 0, wide, high),
                        asItIs || turned ? 0 : WITHOUT);
                    a.turn(0, false);
                    due(part[0] + " by " + part[1] + " may not: is of " + wide + ", " + high, a.is(0, 0, wide, high),
                        asItIs ? 0 : WITHOUT);
                }
            }
        }
    }

    private static void hasNoDefect() {
        sentence("and has no DEFECT: each square of it, and each around it");
        int[][] pieces = {{1, 2, 2, 4}, {0, 0, 3, 1}, {4, 1, 3, 6}, {6, 6, 1, 1}, {0, 3, 7, 2}, {2, 0, 1, 7}};
        for (int[] p : pieces) {
            for (int x = 0; x <= 6; x++) {
                for (int y = 0; y <= 6; y++) {
                    PlateCuts a = from("s77");
                    a.part(p[2], p[3], 9, false);
                    a.defect(x, y);
                    boolean inside = x >= p[0] && x < p[0] + p[2] && y >= p[1] && y < p[1] + p[3];
                    String of = p[0] + ", " + p[1] + ", " + p[2] + ", " + p[3] + " by a defect at " + x + ", " + y;
                    due("is " + of, a.is(p[0], p[1], p[2], p[3]), inside ? WITHOUT : 0);
                    due("best " + of, a.best(p[0], p[1], p[2], p[3]), inside ? 0 : 9);
                }
            }
        }
    }

    private static void leastPartOfAny() {
        sentence("The least PART that a PIECE IS; -5: none");
        PlateCuts a = from("s22;p121;t211;p219;p219;p221");
        due("1 by 2", a.is(0, 0, 1, 2), 0);
        due("2 by 1", a.is(0, 0, 2, 1), 1);
        due("2 by 2, the last of them", a.is(0, 0, 2, 2), 4);
        due("1 by 1", a.is(0, 0, 1, 1), WITHOUT);
        a.turn(1, false);
        due("2 by 1", a.is(0, 1, 2, 1), 1);
        a.renew(1, 0, 7);
        due("2 by 1", a.is(0, 1, 2, 1), 2);
        due("no parts", new PlateCuts().is(0, 0, 4, 4), WITHOUT);
    }

    private static void bestIsNoLessThanNothing() {
        sentence("BEST of a PIECE: the greatest of: 0");
        due("no parts", new PlateCuts().best(0, 0, 4, 4), 0);
        due("a part that is too wide", from("s44;p5199").told(5), 0);
        due("a part that is too high", from("s44;p1599").told(5), 0);
        due("a part that fits turned alone, but may not", from("s21;p1299").told(5), 0);
        due("all squares are bad", from("s31;p1199;d00;d10;d20").told(5), 0);
        due("each piece has a bad square", from("s22;p1299;d00;d11").told(5), 0);
        due("the least worth", from("s11;p111").told(5), 1);
        due("the greatest worth, 49 times", from("s77;p1199").told(5), 4851);
    }

    private static void greatestWorthOfSeveral() {
        sentence("WORTHS of PARTS that it IS: the greatest, wherever it stands");
        due("the first", from("s22;p229;p228;p227").told(5), 9);
        due("in between", from("s22;p227;p229;p228").told(5), 9);
        due("the last of five", from("s22;p221;p222;p223;p224;p225").told(5), 5);
        due("a turned one", from("s21;p211;t129").told(5), 9);
        due("greater by cuts than as a part", from("s21;p219;p115").told(5), 10);
        due("greater as a part than by cuts", from("s21;p2111;p115").told(5), 11);
    }

    private static void firstAndLastUprightCut() {
        sentence("0 UPRIGHT (1 .. WIDE - 1): each k, from the first one to the last");
        // a part that is k wide, and a bad square behind it: all cuts ahead of k spoil it
        int[] bests = {54, 27, 18, 9, 9, 9};
        for (int k = 1; k <= 6; k++) {
            PlateCuts a = from("s71;p" + k + "19;d" + k + "0");
            due("k " + k, a.node(0, KIND), UPRIGHT);
            due("k " + k, a.node(0, NUMBER), k);
            due("told(5) of k " + k, a.told(5), bests[k - 1]);
        }
        due("the first alone", from("s71;p619;d00").node(0, NUMBER), 1);
        due("the last alone", from("s71;p619;d60").node(0, NUMBER), 6);
        due("the last is the first of two", from("s21;p119;d10").node(0, NUMBER), 1);
    }

    private static void firstAndLastLevelCut() {
        sentence("1 LEVEL (1 .. HIGH - 1): each k, from the first one to the last");
        int[] bests = {54, 27, 18, 9, 9, 9};
        for (int k = 1; k <= 6; k++) {
            PlateCuts a = from("s17;p1" + k + "9;d0" + k);
            due("k " + k, a.node(0, KIND), LEVEL);
            due("k " + k, a.node(0, NUMBER), k);
            due("told(5) of k " + k, a.told(5), bests[k - 1]);
        }
        due("the first alone", from("s17;p169;d00").node(0, NUMBER), 1);
        due("the last alone", from("s17;p169;d06").node(0, NUMBER), 6);
        due("the last is the first of two", from("s12;p119;d01").node(0, NUMBER), 1);
    }

    private static void noCutAtNothing() {
        sentence("0 UPRIGHT (1 .. ), 1 LEVEL (1 .. ): none at 0, by which the saw would eat just the strip that is bad");
        for (int kerf = 1; kerf <= 2; kerf++) {
            PlateCuts upright = from("p219;k" + kerf);
            upright.plate(2 + kerf, 1);
            upright.defect(0, 0);
            due("upright, kerf " + kerf, upright.told(5), 0);
            due("upright, kerf " + kerf, upright.staged(1, 0), 0);
            due("upright, kerf " + kerf, upright.told(6), 1);
            upright.plate(3 + kerf, 1);
            upright.defect(0, 0);
            due("upright with a square more, kerf " + kerf, upright.told(5), 9);
            PlateCuts level = from("p129;k" + kerf);
            level.plate(1, 2 + kerf);
            level.defect(0, 0);
            due("level, kerf " + kerf, level.told(5), 0);
            due("level, kerf " + kerf, level.staged(1, 1), 0);
            due("level, kerf " + kerf, level.told(6), 1);
            level.plate(1, 3 + kerf);
            level.defect(0, 0);
            due("level with a square more, kerf " + kerf, level.told(5), 9);
        }
    }

    private static void oneSquareWide() {
        sentence("a PIECE 1 WIDE has no UPRIGHT cut, one 1 HIGH no LEVEL one");
        PlateCuts one = from("s11;p721");
        due("1 by 1", one.node(0, KIND), WASTE);
        PlateCuts tall = from("s12;p113");
        due("1 by 2 is cut level", tall.node(0, KIND), LEVEL);
        PlateCuts flat = from("s21;p113");
        due("2 by 1 is cut upright", flat.node(0, KIND), UPRIGHT);
        PlateCuts held = from("s17;p113");
        for (int node = 0; node < held.told(6); node++) {
            holds("no upright cut in 1 by 7", held.node(node, KIND) != UPRIGHT);
        }
        PlateCuts lying = from("s71;p113");
        for (int node = 0; node < lying.told(6); node++) {
            holds("no level cut in 7 by 1", lying.node(node, KIND) != LEVEL);
        }
    }

    private static void kerfLeavesNothing() {
        sentence("If nothing is left for the second one, there is none: KERF takes just all");
        looksSo(from("s21;k1;p119"), new int[][] {{UPRIGHT, 0, 0, 2, 1, 1, WITHOUT, 9}, {PART, 0, 0, 1, 1, 0, 0, 9}});
        looksSo(from("s12;k1;p119"), new int[][] {{LEVEL, 0, 0, 1, 2, 1, WITHOUT, 9}, {PART, 0, 0, 1, 1, 0, 0, 9}});
        sentence("If nothing is left for the second one, there is none: less than KERF was there");
        looksSo(from("s21;k2;p119"), new int[][] {{UPRIGHT, 0, 0, 2, 1, 1, WITHOUT, 9}, {PART, 0, 0, 1, 1, 0, 0, 9}});
        looksSo(from("s12;k2;p119"), new int[][] {{LEVEL, 0, 0, 1, 2, 1, WITHOUT, 9}, {PART, 0, 0, 1, 1, 0, 0, 9}});
        looksSo(from("s31;k2;p119"), new int[][] {{UPRIGHT, 0, 0, 3, 1, 1, WITHOUT, 9}, {PART, 0, 0, 1, 1, 0, 0, 9}});
        sentence("one from x + k + KERF on, with all that is left: one square");
        looksSo(from("s31;k1;p119"), new int[][] {{UPRIGHT, 0, 0, 3, 1, 1, WITHOUT, 18}, {PART, 0, 0, 1, 1, 0, 0, 9},
            {PART, 2, 0, 1, 1, 0, 0, 9}});
        looksSo(from("s14;k2;p119"), new int[][] {{LEVEL, 0, 0, 1, 4, 1, WITHOUT, 18}, {PART, 0, 0, 1, 1, 0, 0, 9},
            {PART, 0, 3, 1, 1, 0, 0, 9}});
    }

    private static void kerfIsNobodys() {
        sentence("KERF, as far as there is some, is nobody's");
        PlateCuts a = from("s52;k1;p229");
        int[] row = {0, 0, WITHOUT, 0, 0};
        for (int x = 0; x < row.length; x++) {
            due("picture(" + x + ", 0)", a.picture(x, 0), row[x]);
            due("picture(" + x + ", 1)", a.picture(x, 1), row[x]);
        }
        due("WASTED", a.told(9), 2);
        sentence("a DEFECT in the strip that the saw eats harms nobody");
        due("one in the strip", from("s31;k1;p119;d10").told(5), 18);
        due("one beside it", from("s31;k1;p119;d00").told(5), 9);
        due("one in a level strip", from("s14;k2;p119;d01;d02").told(5), 18);
    }

    private static void waste() {
        sentence("a PIECE with BEST 0 is WASTE, however great");
        looksSo(from("s77"), new int[][] {{WASTE, 0, 0, 7, 7, WITHOUT, WITHOUT, 0}});
        looksSo(from("s11;p119;d00"), new int[][] {{WASTE, 0, 0, 1, 1, WITHOUT, WITHOUT, 0}});
        looksSo(from("s31;p129"), new int[][] {{WASTE, 0, 0, 3, 1, WITHOUT, WITHOUT, 0}});
        looksSo(from("s31;p219;d20"), new int[][] {{UPRIGHT, 0, 0, 3, 1, 2, WITHOUT, 9}, {PART, 0, 0, 2, 1, 0, 0, 9},
            {WASTE, 2, 0, 1, 1, WITHOUT, 0, 0}});
    }

    private static void partAheadOfCut() {
        sentence("if it IS a PART whose WORTH is its BEST, it is this PART, even if cuts give as much");
        looksSo(from("s21;p115;p2110"), new int[][] {{PART, 0, 0, 2, 1, 1, WITHOUT, 10}});
        sentence("one whose WORTH is 1 less than its BEST is cut");
        due("kind", from("s21;p115;p219").node(0, KIND), UPRIGHT);
        due("kind", from("s12;p115;p129").node(0, KIND), LEVEL);
    }

    private static void leastOfSeveral() {
        sentence("this PART (of several the least): of those whose WORTH is its BEST");
        due("the second of three", from("s22;p228;p229;p229").node(0, NUMBER), 1);
        due("the last", from("s22;p221;p228;p119;p225;p2299").node(0, NUMBER), 4);
        due("the first", from("s22;p229;p229").node(0, NUMBER), 0);
        due("a turned one", from("s21;p218;t129;p219").node(0, NUMBER), 1);
    }

    private static void uprightAheadOfLevel() {
        sentence("UPRIGHT at the least k where that is its BEST, if there is one; else LEVEL");
        due("both give as much", from("s22;p111").node(0, KIND), UPRIGHT);
        due("upright at 2 goes ahead of level at 1", from("s32;p215;p111;d20").node(0, KIND), UPRIGHT);
        due("level gives more", from("s23;p218;p111").node(0, KIND), LEVEL);
        due("at", from("s23;p218;p111").node(0, NUMBER), 1);
        due("level alone gives anything", from("s32;p315;d01").node(0, KIND), LEVEL);
    }

    private static void leastUpright() {
        sentence("UPRIGHT at the least k where that is its BEST");
        due("the least of all", from("s71;p111").node(0, NUMBER), 1);
        due("not 1, but 2", from("s41;p219").node(0, NUMBER), 2);
        due("not 1 or 2, but 3", from("s61;p319").node(0, NUMBER), 3);
        due("1, where the second piece wastes", from("s51;p219").node(0, NUMBER), 1);
        due("the last alone", from("s71;p619;d60").node(0, NUMBER), 6);
    }

    private static void leastLevel() {
        sentence("else LEVEL likewise: at the least k");
        due("the least of all", from("s17;p111").node(0, NUMBER), 1);
        due("not 1, but 2", from("s14;p129").node(0, NUMBER), 2);
        due("not 1 or 2, but 3", from("s16;p139").node(0, NUMBER), 3);
        due("1, where the second piece wastes", from("s15;p129").node(0, NUMBER), 1);
    }

    private static void numbersOfNodes() {
        sentence("numbered from 0 (THE PLATE) on: each one, then all from its first one on, then all from its second one on");
        int[][] nodes = {
            {UPRIGHT, 0, 0, 2, 2, 1, WITHOUT, 16},
            {LEVEL, 0, 0, 1, 2, 1, 0, 8},
            {PART, 0, 0, 1, 1, 0, 1, 4},
            {PART, 0, 1, 1, 1, 0, 1, 4},
            {LEVEL, 1, 0, 1, 2, 1, 0, 8},
            {PART, 1, 0, 1, 1, 0, 4, 4},
            {PART, 1, 1, 1, 1, 0, 4, 4},
        };
        looksSo(from("s22;p114"), nodes);
    }

    private static void onePieceLeftIsOneNode() {
        sentence("a CUT of which one piece is left has one NODE behind it, and the next number is another's");
        int[][] nodes = {
            {UPRIGHT, 0, 0, 4, 2, 1, WITHOUT, 10},
            {LEVEL, 0, 0, 1, 2, 1, 0, 5},
            {PART, 0, 0, 1, 1, 0, 1, 5},
            {LEVEL, 3, 0, 1, 2, 1, 0, 5},
            {PART, 3, 0, 1, 1, 0, 3, 5},
        };
        looksSo(from("s42;k2;p115"), nodes);
    }

    private static void mostNodes() {
        sentence("NODES: as many as there can be, the last with its number");
        PlateCuts a = from("s77;p111");
        due("told(6)", a.told(6), 97);
        due("node(96, 0)", a.node(96, 0), PART);
        due("node(96, 1)", a.node(96, 1), 6);
        due("node(96, 2)", a.node(96, 2), 6);
        due("node(95, 6)", a.node(95, 6), 94);
        due("node(96, 6)", a.node(96, 6), 94);
        due("node(97, 0)", a.node(97, 0), NONE);
        due("picture(6, 6)", a.picture(6, 6), 0);
        due("of(0, 4)", a.of(0, 4), 49);
    }

    private static void toldOfWhat() {
        sentence("told: what 0 .. 10; NONE");
        PlateCuts a = from("s54;k1;p227;p111;d43");
        int[] told = {5, 4, 1, 2, 1};
        for (int what = 0; what < told.length; what++) {
            due("told(" + what + ")", a.told(what), told[what]);
        }
        int[] noWhats = {-1, 11, 12, LEAST, MOST, -5, 256};
        for (int what : noWhats) {
            due("told(" + what + ")", a.told(what), NONE);
        }
    }

    private static void toldOfTheSmallest() {
        sentence("of THE CUTS: NODES, PARTS, CUT, WASTED, DEEP, of the smallest plate");
        PlateCuts a = from("s11");
        int[] wasted = {1, 1, 0, 0, 0, 0, 1, 0, 0, 1, 0};
        for (int what = 0; what <= 10; what++) {
            due("a waste: told(" + what + ")", a.told(what), wasted[what]);
        }
        a.part(1, 1, 99, true);
        int[] one = {1, 1, 0, 1, 0, 99, 1, 1, 0, 0, 0};
        for (int what = 0; what <= 10; what++) {
            due("a part: told(" + what + ")", a.told(what), one[what]);
        }
        due("of(0, 4)", a.of(0, 4), 1);
    }

    private static void wastedAllAndNone() {
        sentence("WASTED: squares of THE PLATE in no NODE that is a PART");
        due("all", from("s77").told(9), 49);
        due("none", from("s77;p111").told(9), 0);
        due("none, one part", from("s77;p771").told(9), 0);
        due("all but one part's", from("s77;p661").told(9), 13);
        due("a bad one", from("s22;p111;d11").told(9), 1);
        due("the saw's", from("s77;k2;p111").told(9), 40);
    }

    private static void deepest() {
        sentence("DEEP: how many CUTS are one under another in THE CUTS, at most");
        due("none", from("s77;p771").told(10), 0);
        due("none, a waste", from("s77").told(10), 0);
        due("one", from("s21;p111").told(10), 1);
        due("as many as there can be", from("s77;p111").told(10), 12);
        due("in the second one, not the first", from("s41;p111").told(10), 3);
        due("in the first one, not the second", from("s22;p111;d10;d11").told(10), 2);
    }

    private static void nodeOfWhich() {
        sentence("node: NONE: no such NODE, no such what (0 .. 7)");
        PlateCuts a = from("s21;p113");
        int[] what0 = {UPRIGHT, PART, PART};
        for (int node = -2; node <= 5; node++) {
            boolean there = node >= 0 && node <= 2;
            due("node(" + node + ", 0)", a.node(node, 0), there ? what0[node] : NONE);
            for (int what = 0; what <= 7; what++) {
                holds("node(" + node + ", " + what + ")", a.node(node, what) == NONE == !there);
            }
            due("node(" + node + ", -1)", a.node(node, -1), NONE);
            due("node(" + node + ", 8)", a.node(node, 8), NONE);
        }
        int[] far = {LEAST, LEAST + 1, MOST / 8 + 1, MOST, 97, 98, 1 << 29};
        for (int v : far) {
            due("node(" + v + ", 0)", a.node(v, 0), NONE);
            due("node(0, " + v + ")", a.node(0, v), NONE);
            due("node(" + v + ", " + v + ")", a.node(v, v), NONE);
        }
        sentence("node: what was a NODE behind a change isn't any more");
        a.plate(1, 1);
        due("node(0, 0)", a.node(0, 0), PART);
        due("node(1, 0)", a.node(1, 0), NONE);
    }

    private static void whereThereIsNoNumber() {
        sentence("5 the number of the PART, or k, where it is CUT (WASTE: -5), 6 the NODE it comes of (-5: THE PLATE)");
        PlateCuts a = from("s31;p219;d00");
        due("k", a.node(0, 5), 1);
        due("of THE PLATE", a.node(0, 6), WITHOUT);
        due("of WASTE", a.node(1, 5), WITHOUT);
        due("of the first one", a.node(1, 6), 0);
        due("of the PART", a.node(2, 5), 0);
        due("of the second one", a.node(2, 6), 0);
        due("BEST of WASTE", a.node(1, 7), 0);
    }

    private static void pictureOfEachSquare() {
        sentence("picture: the PART of the NODE that has a square and is a PART; -5: there is none");
        PlateCuts a = from("s32;p315;p212;d21");
        int[][] rows = {{0, 0, 0}, {1, 1, WITHOUT}};
        PlateCuts b = from("s23;p135;p122;d12");
        for (int y = 0; y < 2; y++) {
            for (int x = 0; x < 3; x++) {
                due("picture(" + x + ", " + y + ")", a.picture(x, y), rows[y][x]);
                due("the other way: picture(" + y + ", " + x + ")", b.picture(y, x), rows[y][x]);
            }
        }
        due("no part", new PlateCuts().picture(3, 3), WITHOUT);
    }

    private static void pictureBeyond() {
        sentence("picture: NONE: no such square");
        PlateCuts a = from("s57;p111");
        int[] far = {LEAST, -8, -1, 7, 8, 14, 255, 256, MOST};
        for (int v : far) {
            due("picture(" + v + ", 0)", a.picture(v, 0), NONE);
            due("picture(0, " + v + ")", a.picture(0, v), NONE);
            due("picture(" + v + ", " + v + ")", a.picture(v, v), NONE);
        }
        due("picture(4, 6)", a.picture(4, 6), 0);
        due("picture(5, 6)", a.picture(5, 6), NONE);
        due("picture(6, 4)", a.picture(6, 4), NONE);
    }

    private static void usedTimes() {
        sentence("USED of a PART: how many NODES of THE CUTS are it");
        PlateCuts a = from("s77;p111;p111;p772;p332");
        due("of two alike the least is used", a.of(0, 4), 49);
        due("and the other not", a.of(1, 4), 0);
        due("of(2, 4)", a.of(2, 4), 0);
        a.renew(2, 2, 49);
        due("the whole", a.of(2, 4), 1);
        due("of(0, 4)", a.of(0, 4), 0);
        a.renew(2, 2, 48);
        due("1 less than by cuts", a.of(2, 4), 0);
    }
}
