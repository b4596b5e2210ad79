/** Stages, sizes, more, bound, seen, odds, means, events, books (Terms 2, promises 17 to 28) at their bounds, a sentence a test. */
final class AskedBoundsTest extends Sentences {
    private static final int[] FAR = {LEAST, LEAST + 1, -256, -5, MOST - 1, MOST, 256, 1 << 16};
    private static final int[] NOT_ONE_OF_TWO = {-1, 2, 3, LEAST, MOST, 256};

    public static void main(String[] args) {
        begin("AskedBoundsTest");
        stagesAndWays();
        oneStage();
        eachStageMore();
        levelFirst();
        stagesOfOnePart();
        stagesWithKerf();
        sizeNone();
        sizesUpToThePlates();
        sizesWithKerfBetween();
        sizesOfSeveral();
        sizesOfTurned();
        sizesOfWhich();
        moreAtSeven();
        moreOfWhich();
        moreIsNothing();
        moreDefectsStay();
        boundOfParts();
        boundLowest();
        boundExtremes();
        seenOfWhich();
        seenFiveRows();
        seenNoneThen();
        fitsFromOneToTwenty();
        fitsAllAndNone();
        fitsAllOfSeen();
        fitsOfWhich();
        oddsFromOneToTen();
        oddsNeverAndEver();
        oddsOfWhich();
        meanOfNone();
        meanLowest();
        eventOfWhich();
        eventSquares();
        eventSquaresOfThePlateNow();
        eventParts();
        eventKerfs();
        eightEvents();
        noEventsThen();
        afterOfWhich();
        afterKerf();
        afterEachSquare();
        afterMoreThanThree();
        afterSquaresElsewhere();
        afterTurns();
        afterCheap();
        afterInOrder();
        bookOfWhich();
        eightOfTheBook();
        bookEmptyThen();
        lookedRows();
        finish();
    }

    private static void stagesAndWays() {
        sentence("staged: BAD: stages (1 .. 3), way (0, 1)");
        PlateCuts x = from("s33;p111");
        for (int stages = -1; stages <= 5; stages++) {
            for (int way = -2; way <= 3; way++) {
                boolean good = stages >= 1 && stages <= 3 && (way == 0 || way == 1);
                due("staged(" + stages + ", " + way + ")", x.staged(stages, way), good ? stages == 1 ? 0 : 9 : BAD);
            }
        }
        for (int far : FAR) {
            due("staged(" + far + ", 0)", x.staged(far, 0), BAD);
            due("staged(2, " + far + ")", x.staged(2, far), BAD);
        }
    }

    private static void oneStage() {
        sentence("in the first STAGE THE PLATE is CUT that way alone, as often as one likes");
        PlateCuts x = from("s73;p135;p714");
        due("upright, six times", x.staged(1, 0), 35);
        due("level, twice", x.staged(1, 1), 12);
        PlateCuts one = from("s71;p111");
        due("upright", one.staged(1, 0), 7);
        due("level, as there is none", one.staged(1, 1), 0);
    }

    private static void eachStageMore() {
        sentence("in the next STAGE all of it the other way, and so on");
        // 1 by 3 thrice is 21; 1 by 3 beside 2 by 1 over two of 1 by 2 is 22, and needs upright, level, upright
        PlateCuts x = from("s33;p137;p213;p126");
        due("staged(1, 0)", x.staged(1, 0), 21);
        due("staged(2, 0)", x.staged(2, 0), 21);
        due("staged(3, 0)", x.staged(3, 0), 22);
        due("staged(1, 1)", x.staged(1, 1), 0);
        due("staged(2, 1)", x.staged(2, 1), 21);
        due("behind n STAGES nothing is CUT", x.staged(3, 1), 21);
        due("BEST", x.told(5), 22);
    }

    private static void levelFirst() {
        sentence("in the next STAGE all of it the other way, from level on");
        // level below 3 by 1, upright into 2 by 4 and 1 by 4, level into 2 by 2 twice
        PlateCuts x = from("s35;p228;p142;p313");
        due("staged(1, 0)", x.staged(1, 0), 0);
        due("staged(2, 0)", x.staged(2, 0), 18);
        due("staged(3, 0)", x.staged(3, 0), 19);
        due("staged(1, 1)", x.staged(1, 1), 15);
        due("staged(2, 1)", x.staged(2, 1), 19);
        due("staged(3, 1)", x.staged(3, 1), 21);
        due("BEST", x.told(5), 21);
    }

    private static void stagesOfOnePart() {
        sentence("STAGED: as often as one likes: not at all, too");
        PlateCuts x = from("s22;p229;p112");
        for (int stages = 1; stages <= 3; stages++) {
            due("staged(" + stages + ", 0)", x.staged(stages, 0), 9);
            due("staged(" + stages + ", 1)", x.staged(stages, 1), 9);
        }
        x.defect(0, 0);
        due("staged(1, 0)", x.staged(1, 0), 0);
        due("staged(2, 0)", x.staged(2, 0), 6);
        due("no parts", new PlateCuts().staged(3, 1), 0);
    }

    private static void stagesWithKerf() {
        sentence("STAGED: CUTS with KERF, and of one PIECE where nothing is left for the second");
        PlateCuts x = from("s21;k2;p119");
        due("staged(1, 0)", x.staged(1, 0), 9);
        due("staged(1, 1)", x.staged(1, 1), 0);
        PlateCuts y = from("s44;k2;p119");
        due("staged(1, 0)", y.staged(1, 0), 0);
        due("staged(2, 0)", y.staged(2, 0), 36);
        due("staged(2, 1)", y.staged(2, 1), 36);
    }

    private static void sizeNone() {
        sentence("SIZES: BITS of 0");
        PlateCuts x = from("s77");
        due("no parts: sizes(0)", x.sizes(0), 1);
        due("no parts: sizes(1)", x.sizes(1), 1);
        due("parts that are too great", from("s11;p229;t345").sizes(0), 1);
        due("with a kerf", from("s11;k2;p229").sizes(1), 1);
    }

    private static void sizesUpToThePlates() {
        sentence("SIZES: of all sizes up to THE PLATE's: just as great is one, greater by 1 is none");
        for (int side = 1; side <= 7; side++) {
            PlateCuts x = from("s11");
            x.part(side, side, 1, false);
            for (int plate = 1; plate <= 7; plate++) {
                int bits = 0;
                for (int size = 0; size <= plate; size += side) {
                    bits |= 1 << size;
                }
                x.plate(plate, 1);
                due("sizes(0) of " + side + " in " + plate, x.sizes(0), bits);
                x.plate(1, plate);
                due("sizes(1) of " + side + " in " + plate, x.sizes(1), bits);
            }
        }
    }

    private static void sizesWithKerfBetween() {
        sentence("SIZES: with KERF between each two");
        due("one alone needs no kerf", from("s33;k2;p331").sizes(0), 1 + 8);
        due("two of 1, kerf 1, in 3", from("s31;k1;p111").sizes(0), 1 + 2 + 8);
        due("two of 1, kerf 2, in 3", from("s31;k2;p111").sizes(0), 1 + 2);
        due("two of 1, kerf 2, in 4", from("s41;k2;p111").sizes(0), 1 + 2 + 16);
        due("three of 1, kerf 2, in 7", from("s71;k2;p111").sizes(0), 1 + 2 + 16 + 128);
        due("1 and 2, kerf 1, in 7", from("s17;k1;p111;p121").sizes(1), 1 + 2 + 4 + 8 + 16 + 32 + 64 + 128);
        due("kerf alone is no size", from("s71;k2;p551").sizes(0), 1 + 32);
    }

    private static void sizesOfSeveral() {
        sentence("SIZES: sums of such sides of PARTS, each as often as one likes");
        due("3 and 4: 3 4 6 7", from("s77;p311;p411").sizes(0), 1 + 8 + 16 + 64 + 128);
        due("2 and 5: 2 4 5 6 7", from("s77;p511;p211").sizes(0), 1 + 4 + 16 + 32 + 64 + 128);
        due("each of five", from("s71;k2;p111;p211;p311;p411;p511").sizes(0), 255);
        due("the last of five alone fits", from("s31;p711;p611;p511;p411;p311").sizes(0), 1 + 8);
        due("the other side is another", from("s77;p311;p411").sizes(1), 255);
        due("DEFECTS don't matter", from("s11;p111;d00").sizes(0), 3);
    }

    private static void sizesOfTurned() {
        sentence("SIZES: (of TURNED ones of both their sides)");
        PlateCuts x = from("s77;t521;p771");
        due("2 4 5 6 7", x.sizes(0), 1 + 4 + 16 + 32 + 64 + 128);
        due("2 4 5 6 7", x.sizes(1), 1 + 4 + 16 + 32 + 64 + 128);
        x.turn(0, false);
        due("5 7", x.sizes(0), 1 + 32 + 128);
        due("2 4 6 7", x.sizes(1), 1 + 4 + 16 + 64 + 128);
        PlateCuts last = from("s77;p771;t671");
        due("6 7", last.sizes(0), 1 + 64 + 128);
        due("6 7", last.sizes(1), 1 + 64 + 128);
    }

    private static void sizesOfWhich() {
        sentence("sizes: NONE: side");
        PlateCuts x = from("s77;p111");
        due("sizes(0)", x.sizes(0), 255);
        due("sizes(1)", x.sizes(1), 255);
        for (int side : NOT_ONE_OF_TWO) {
            due("sizes(" + side + ")", x.sizes(side), NONE);
        }
    }

    private static void moreAtSeven() {
        sentence("more: NO: THE PLATE has 7 there");
        for (int side = 1; side <= 7; side++) {
            PlateCuts x = from("p112");
            x.plate(side, 1);
            due("more(0) of " + side + " by 1", x.more(0), side == 7 ? NO : 2);
            due("more(1) of " + side + " by 1", x.more(1), 2 * side);
            x.plate(1, side);
            due("more(1) of 1 by " + side, x.more(1), side == 7 ? NO : 2);
            due("more(0) of 1 by " + side, x.more(0), 2 * side);
        }
        PlateCuts whole = from("s77;p112");
        due("both", whole.more(0), NO);
        due("both", whole.more(1), NO);
        PlateCuts six = from("s66;p777;p679;p768");
        due("up to 7", six.more(0), 8);
        due("up to 7", six.more(1), 9);
    }

    private static void moreOfWhich() {
        sentence("more: NO: side");
        PlateCuts x = from("s33;p112");
        for (int side : NOT_ONE_OF_TWO) {
            due("more(" + side + ")", x.more(side), NO);
        }
        stands(x, 3, 3, 0, 1, 0);
    }

    private static void moreIsNothing() {
        sentence("MORE: BEST of THE PLATE, were it a square more on that side, less its BEST: 0, where it is worth nothing");
        due("no parts", new PlateCuts().more(0), 0);
        due("no parts", new PlateCuts().more(1), 0);
        due("a kerf eats it", from("s31;k2;p112").more(0), 2);
        due("a kerf eats it", from("s21;k2;p112").more(0), 0);
        due("a kerf eats just it", from("s11;k1;p112").more(0), 0);
        due("a part that needs two more", from("s11;p319").more(0), 0);
        due("on the other side alone", from("s11;p129").more(0), 0);
        due("on the other side alone", from("s11;p129").more(1), 9);
    }

    private static void moreDefectsStay() {
        sentence("MORE: (DEFECTS stay)");
        due("the old square is bad, the new one isn't", from("s11;p112;d00").more(0), 2);
        due("a part over both", from("s11;p215;d00").more(0), 0);
        due("by the last square of three", from("s33;p3222;d22").more(0), 0);
        PlateCuts x = from("s12;p2119;d00");
        due("the row without a defect", x.more(0), 19);
        x.defect(0, 1);
        due("both rows have one", x.more(0), 0);
        PlateCuts y = from("s66;p773;p113;d00;d31;d55");
        due("BEST", y.told(5), 99);
        due("six more squares", y.more(0), 18);
        due("six more squares", y.more(1), 18);
        due("the whole can't be had", y.best(0, 0, 6, 6), 99);
    }

    private static void boundOfParts() {
        sentence("bound: NO: there are no PARTS");
        PlateCuts x = new PlateCuts();
        due("bound(0)", x.bound(0), NO);
        due("bound(1)", x.bound(1), NO);
        x.part(1, 1, 1, false);
        due("bound(0)", x.bound(0), 16);
        due("bound(1)", x.bound(1), 1);
        sentence("bound: part 0 above, 1 below the line; NO: part");
        for (int part : NOT_ONE_OF_TWO) {
            due("bound(" + part + ")", x.bound(part), NO);
            due("no parts: bound(" + part + ")", new PlateCuts().bound(part), NO);
        }
    }

    private static void boundLowest() {
        sentence("BOUND: the greatest WORTH by a PART's squares, times THE PLATE's squares: a fraction in lowest terms");
        due("just a number", from("s23;p234").bound(1), 1);
        due("just a number", from("s23;p234").bound(0), 4);
        due("2 / 4 * 9 above", from("s33;p222").bound(0), 9);
        due("2 / 4 * 9 below", from("s33;p222").bound(1), 2);
        due("5 / 6 * 4 above", from("s22;p325").bound(0), 10);
        due("5 / 6 * 4 below", from("s22;p325").bound(1), 3);
        due("the greatest stands last", from("s11;p225;p117;p1299").bound(0), 99);
        due("the greatest stands last, below", from("s11;p225;p117;p1299").bound(1), 2);
        due("the greatest stands first", from("s11;p1150;p1299").bound(0), 50);
        due("of two alike either", from("s11;p122;p248").bound(0), 1);
        due("a part that can't be cut counts", from("s11;p7799;p111").bound(0), 99);
        due("a part that can't be cut counts", from("s11;p7799;p111").bound(1), 49);
        due("DEFECTS don't matter", from("s12;p115;d00").bound(0), 10);
    }

    private static void boundExtremes() {
        sentence("BOUND: the greatest and the least that there are");
        due("99 on each of 49", from("s77;p1199").bound(0), 4851);
        due("below", from("s77;p1199").bound(1), 1);
        due("1 on 49", from("s11;p771").bound(0), 1);
        due("below", from("s11;p771").bound(1), 49);
        due("the whole", from("s77;p771").bound(0), 1);
        due("below", from("s77;p771").bound(1), 1);
        due("47 / 48: no less", from("s77;p7697;p774").bound(0), 97 * 7);
        due("below", from("s77;p7697;p774").bound(1), 6);
    }

    private static void seenOfWhich() {
        sentence("see: NONE: part; BAD: n (0 .. 49)");
        due("no part at all", new PlateCuts().see(0, 0), NONE);
        PlateCuts x = from("p111;p112");
        for (int part : new int[] {-2, 2, 3, 5, LEAST, MOST}) {
            due("see(" + part + ", 0)", x.see(part, 0), NONE);
            due("see(" + part + ", 50), NONE ahead of BAD", x.see(part, 50), NONE);
            due("see(" + part + ", -1), NONE ahead of BAD", x.see(part, -1), NONE);
        }
        for (int n : new int[] {-1, 50, 51, LEAST, MOST, 256}) {
            due("see(1, " + n + ")", x.see(1, n), BAD);
        }
        due("count(0)", x.count(0), 0);
        due("see(1, 0)", x.see(1, 0), 1);
        due("see(1, 49)", x.see(1, 49), 2);
        due("count(0)", x.count(0), 2);
    }

    private static void seenFiveRows() {
        sentence("SEEN told by hand: 5 rows at most; FULL: 5");
        PlateCuts x = from("p111");
        for (int i = 1; i <= 5; i++) {
            due("see " + i, x.see(0, 16), i);
            due("count(0)", x.count(0), i);
        }
        due("see 6", x.see(0, 16), FULL);
        due("count(0)", x.count(0), 5);
        due("all fit", x.fits(0, 0), 20);
        due("what was refused is not seen", x.see(0, 3), FULL);
        due("all fit", x.fits(0, 0), 20);
        sentence("see: NONE: part; BAD: n; FULL: 5 - in this order");
        due("NONE", x.see(1, 0), NONE);
        due("BAD", x.see(0, 50), BAD);
        due("BAD", x.see(0, -1), BAD);
        due("EVENTS and the BOOK have room of their own", x.event(3, 0) + x.book(0, 1), 2);
    }

    private static void seenNoneThen() {
        sentence("see: part -1: none then, 0, whatever the rest is");
        for (int n : new int[] {-1, 0, 49, 50, LEAST, MOST}) {
            PlateCuts x = from("p111");
            x.see(0, 1);
            x.book(0, 2);
            x.event(0, 1);
            due("see(-1, " + n + ")", x.see(-1, n), 0);
            due("count(0)", x.count(0), 0);
            due("count(1)", x.count(1), 1);
            due("count(2)", x.count(2), 1);
            due("all fit", x.fits(0, 0), 20);
            due("the first again", x.see(0, 2), 1);
            due("none fits", x.fits(0, 0), 0);
            due("no part at all", new PlateCuts().see(-1, n), 0);
        }
        PlateCuts full = from("p111");
        for (int i = 0; i < 5; i++) {
            full.see(0, i);
        }
        due("of 5 rows", full.see(-1, 0), 0);
        due("see", full.see(0, 16), 1);
        due("no row of before is left", full.fits(0, 0), 20);
    }

    private static void fitsFromOneToTwenty() {
        sentence("FITS: how many WORTHS 1 .. 20 there are; the least");
        // part 0 is used once, where it is worth two of part 1 or more
        int[][] due = {{1, 19, 2}, {9, 3, 18}, {10, 1, 20}};
        for (int[] d : due) {
            PlateCuts x = from("s21;p215;p11" + d[0]);
            x.see(0, 1);
            due("from " + d[2] + " on", x.fits(0, 0), d[1]);
            due("from " + d[2] + " on", x.fits(0, 1), d[2]);
        }
        PlateCuts beyond = from("s21;p215;p1111");
        beyond.see(0, 1);
        due("from 22 on", beyond.fits(0, 0), 0);
        due("from 22 on", beyond.fits(0, 1), WITHOUT);
        PlateCuts below = from("s21;p215;p111");
        below.see(1, 2);
        due("1 alone", below.fits(0, 0), 1);
        due("1 alone", below.fits(0, 1), 1);
        PlateCuts all = from("s21;p215;p1111");
        all.see(1, 2);
        due("all", all.fits(0, 0), 20);
        due("all", all.fits(0, 1), 1);
        PlateCuts odd = from("s21;p2121;p115");
        odd.see(0, 1);
        due("of part 1 all whose two are less than 21", odd.fits(1, 0), 10);
        due("of part 1 the least", odd.fits(1, 1), 1);
    }

    private static void fitsAllAndNone() {
        sentence("FITS: the least (-5: none)");
        PlateCuts x = from("s11;p115");
        due("nothing seen", x.fits(0, 0), 20);
        due("nothing seen", x.fits(0, 1), 1);
        x.see(0, 1);
        due("all", x.fits(0, 0), 20);
        due("all", x.fits(0, 1), 1);
        x.see(-1, 0);
        x.see(0, 2);
        due("none", x.fits(0, 0), 0);
        due("none", x.fits(0, 1), WITHOUT);
        x.see(-1, 0);
        x.see(0, 0);
        due("none", x.fits(0, 0), 0);
        due("none", x.fits(0, 1), WITHOUT);
        PlateCuts most = from("s77;p111");
        most.see(0, 49);
        due("as many as there can be", most.fits(0, 0), 20);
    }

    private static void fitsAllOfSeen() {
        sentence("FITS: by which all of SEEN would be USED so often: the first row and the fifth one, too");
        PlateCuts x = from("s21;p215;p113");
        for (int i = 0; i < 4; i++) {
            x.see(0, 1);
        }
        due("from 6 on", x.fits(0, 0), 15);
        x.see(0, 0);
        due("the fifth is otherwise", x.fits(0, 0), 0);
        x.see(-1, 0);
        x.see(0, 0);
        for (int i = 0; i < 4; i++) {
            x.see(1, 0);
        }
        due("the first is otherwise", x.fits(0, 0), 0);
    }

    private static void fitsOfWhich() {
        sentence("fits: NONE: part, what");
        due("no part at all", new PlateCuts().fits(0, 0), NONE);
        PlateCuts x = from("p111;p112");
        for (int part : new int[] {-1, 2, 5, LEAST, MOST}) {
            due("fits(" + part + ", 0)", x.fits(part, 0), NONE);
            due("fits(" + part + ", 1)", x.fits(part, 1), NONE);
        }
        for (int what : NOT_ONE_OF_TWO) {
            due("fits(1, " + what + ")", x.fits(1, what), NONE);
        }
    }

    private static void oddsFromOneToTen() {
        sentence("ODDS: were its WORTH 1, 2, .. 10, each alike likely: a fraction in lowest terms");
        // part 0 is used from two of part 1 on
        int[][] due = {{1, 9, 10}, {2, 7, 10}, {3, 1, 2}, {4, 3, 10}, {5, 1, 10}, {6, 0, 1}};
        for (int[] d : due) {
            PlateCuts x = from("s21;p2150;p11" + d[0]);
            due("from " + 2 * d[0] + " on above", x.odds(0, 0), d[1]);
            due("from " + 2 * d[0] + " on below", x.odds(0, 1), d[2]);
            due("of(0, 2)", x.of(0, 2), 50);
        }
    }

    private static void oddsNeverAndEver() {
        sentence("ODDS: never, ever");
        PlateCuts x = from("s21;p221;p1199");
        due("never above", x.odds(0, 0), 0);
        due("never below", x.odds(0, 1), 1);
        due("ever above", x.odds(1, 0), 1);
        due("ever below", x.odds(1, 1), 1);
    }

    private static void oddsOfWhich() {
        sentence("odds: above (line 0), below (1) the line; NO: part, line");
        due("no part at all", new PlateCuts().odds(0, 0), NO);
        PlateCuts x = from("p111;p112");
        for (int part : new int[] {-1, 2, 5, LEAST, MOST}) {
            due("odds(" + part + ", 0)", x.odds(part, 0), NO);
            due("odds(" + part + ", 1)", x.odds(part, 1), NO);
        }
        for (int line : NOT_ONE_OF_TWO) {
            due("odds(1, " + line + ")", x.odds(1, line), NO);
        }
    }

    private static void meanOfNone() {
        sentence("MEAN: (NO: none is)");
        due("no parts above", new PlateCuts().mean(0), NO);
        due("no parts below", new PlateCuts().mean(1), NO);
        PlateCuts x = from("s22;p339");
        due("none is used above", x.mean(0), NO);
        due("none is used below", x.mean(1), NO);
        sentence("mean: NO: line");
        x.plate(3, 3);
        due("one", x.mean(0), 9);
        due("one", x.mean(1), 1);
        for (int line : NOT_ONE_OF_TWO) {
            due("mean(" + line + ")", x.mean(line), NO);
            due("none is: mean(" + line + ")", new PlateCuts().mean(line), NO);
        }
    }

    private static void meanLowest() {
        sentence("MEAN: BEST of THE PLATE by how many NODES of THE CUTS are PARTS: a fraction in lowest terms");
        due("all alike", from("s77;p1199").mean(0), 99);
        due("all alike", from("s77;p1199").mean(1), 1);
        due("5 by 2 above", from("s31;p214;p111").mean(0), 5);
        due("5 by 2 below", from("s31;p214;p111").mean(1), 2);
        due("2 + 2 by 2, as upright at 1 gives as much as the part of 4", from("s31;p214;p112;d20").mean(0), 2);
        due("6 by 2 is 3 above", from("s31;p215;p111").mean(0), 3);
        due("6 by 2 is 3 below", from("s31;p215;p111").mean(1), 1);
        due("8 + 2 by 2 is 5", from("s51;p218;p112;d40;d20").mean(0), 5);
    }

    private static void eventOfWhich() {
        sentence("event: NONE: what (0 .. 3)");
        PlateCuts x = from("s33;p111");
        for (int what : new int[] {-2, 4, 5, 255, 256, LEAST, MOST}) {
            due("event(" + what + ", 0)", x.event(what, 0), NONE);
            due("event(" + what + ", -1)", x.event(what, -1), NONE);
            due("event(" + what + ", 3)", x.event(what, 3), NONE);
        }
        due("count(1)", x.count(1), 0);
        for (int what = 0; what <= 3; what++) {
            due("event(" + what + ", 0)", x.event(what, 0), what + 1);
        }
    }

    private static void eventSquares() {
        sentence("event: NONE: square (of THE PLATE)");
        int[][] plates = {{1, 1}, {4, 2}, {2, 4}, {7, 7}};
        for (int[] plate : plates) {
            for (int n = -21; n <= 110; n++) {
                PlateCuts x = new PlateCuts();
                x.plate(plate[0], plate[1]);
                boolean there = n >= 0 && n / 10 < plate[0] && n % 10 < plate[1];
                due(plate[0] + " by " + plate[1] + ": event(1, " + n + ")", x.event(1, n), there ? 1 : NONE);
                due("count(1)", x.count(1), there ? 1 : 0);
            }
        }
        PlateCuts x = from("s77");
        for (int far : FAR) {
            due("event(1, " + far + ")", x.event(1, far), NONE);
        }
        due("a square that is a DEFECT is one, too", from("s11;d00").event(1, 0), 1);
    }

    private static void eventSquaresOfThePlateNow() {
        sentence("event: square (of THE PLATE as it is now)");
        PlateCuts x = from("s77");
        due("event(1, 66)", x.event(1, 66), 1);
        x.plate(2, 2);
        due("event(1, 66)", x.event(1, 66), NONE);
        due("event(1, 11)", x.event(1, 11), 2);
        due("event(1, 12)", x.event(1, 12), NONE);
        due("event(1, 21)", x.event(1, 21), NONE);
        due("the one of before stays", x.count(1), 2);
    }

    private static void eventParts() {
        sentence("event: NONE: PART n");
        for (int what = 2; what <= 3; what++) {
            due("no part at all", new PlateCuts().event(what, 0), NONE);
            PlateCuts x = from("p111;p112;p113;p114");
            for (int part : new int[] {-1, 4, 5, LEAST, MOST}) {
                due("event(" + what + ", " + part + ")", x.event(what, part), NONE);
            }
            due("the last part", x.event(what, 3), 1);
            x.part(1, 1, 5, false);
            due("one that has come since", x.event(what, 4), 2);
        }
    }

    private static void eventKerfs() {
        sentence("event: BAD: KERF n (0 .. 2)");
        PlateCuts x = new PlateCuts();
        for (int n = -1; n <= 4; n++) {
            due("event(0, " + n + ")", x.event(0, n), n >= 0 && n <= 2 ? n + 1 : BAD);
        }
        for (int far : FAR) {
            due("event(0, " + far + ")", x.event(0, far), BAD);
        }
        due("count(1)", x.count(1), 3);
        due("KERF itself stays", x.told(2), 0);
    }

    private static void eightEvents() {
        sentence("EVENTS told by hand: 8 rows at most; FULL: 8");
        PlateCuts x = from("s21;p113");
        for (int i = 1; i <= 8; i++) {
            due("event " + i, x.event(0, i == 8 ? 1 : 2), i);
            due("count(1)", x.count(1), i);
        }
        due("the eighth counts", x.after(0), 3);
        due("event 9", x.event(0, 0), FULL);
        due("count(1)", x.count(1), 8);
        due("the ninth doesn't", x.after(0), 3);
        sentence("event: NONE: what, square, PART n; BAD: KERF n; FULL: 8 - in this order");
        due("what", x.event(4, 0), NONE);
        due("square", x.event(1, 20), NONE);
        due("square", x.event(1, 1), NONE);
        due("PART", x.event(2, 1), NONE);
        due("PART", x.event(3, -1), NONE);
        due("KERF", x.event(0, 3), BAD);
        due("KERF", x.event(0, -1), BAD);
        due("FULL", x.event(1, 0), FULL);
        due("FULL", x.event(2, 0), FULL);
        due("FULL", x.event(3, 0), FULL);
        due("SEEN and the BOOK have room of their own", x.see(0, 1) + x.book(0, 1), 2);
    }

    private static void noEventsThen() {
        sentence("event: what -1: none then, 0, whatever the rest is");
        for (int n : new int[] {-1, 0, 2, 3, 66, LEAST, MOST}) {
            PlateCuts x = from("s21;p113");
            x.event(1, 0);
            x.see(0, 1);
            x.book(0, 1);
            due("after(0)", x.after(0), 3);
            due("event(-1, " + n + ")", x.event(-1, n), 0);
            due("count(0)", x.count(0), 1);
            due("count(1)", x.count(1), 0);
            due("count(2)", x.count(2), 1);
            due("after(0)", x.after(0), 6);
            due("the first again", x.event(3, 0), 1);
            due("after(0)", x.after(0), 2);
            due("no part at all", new PlateCuts().event(-1, n), 0);
        }
        PlateCuts full = from("s21;p113");
        for (int i = 0; i < 8; i++) {
            full.event(3, 0);
        }
        due("of 8 rows", full.event(-1, 0), 0);
        due("after(0)", full.after(0), 6);
        due("event(0, 0)", full.event(0, 0), 1);
        due("no row of before is left", full.after(0), 6);
    }

    private static void afterOfWhich() {
        sentence("after: what 0 BEST, 1 WASTED, 2 CUTS; NONE");
        PlateCuts x = from("s51;k1;p115");
        due("after(0)", x.after(0), 15);
        due("after(1)", x.after(1), 2);
        due("after(2)", x.after(2), 2);
        for (int what : new int[] {-1, 3, 4, LEAST, MOST, 256}) {
            due("after(" + what + ")", x.after(what), NONE);
        }
        PlateCuts none = new PlateCuts();
        due("no parts: after(0)", none.after(0), 0);
        due("no parts: after(1)", none.after(1), 16);
        due("no parts: after(2)", none.after(2), 0);
    }

    private static void afterKerf() {
        sentence("EVENTS: 0 KERF is n");
        int[] bests = {35, 20, 15};
        for (int kerf = 0; kerf <= 2; kerf++) {
            for (int before = 0; before <= 2; before++) {
                PlateCuts x = from("s71;p115;k" + before);
                x.event(0, kerf);
                due("after(0) of " + kerf, x.after(0), bests[kerf]);
                due("after(1) of " + kerf, x.after(1), 7 - bests[kerf] / 5);
                due("told(5)", x.told(5), bests[before]);
            }
        }
    }

    private static void afterEachSquare() {
        sentence("EVENTS: 1 square n (10 x + y) is a DEFECT (if it is none)");
        for (int square = 0; square < 49; square++) {
            int n = 10 * (square / 7) + square % 7;
            PlateCuts x = from("s77;p111");
            x.event(1, n);
            due("after(1) of " + n, x.after(1), 1);
            x.defect(square / 7, square % 7);
            due(n + " is one already", x.after(1), 1);
            x.event(1, n);
            due(n + " twice", x.after(1), 1);
            x.event(1, n == 66 ? 0 : 66);
            due(n + " and another", x.after(1), 2);
            x.mend();
            due("MENDED since: " + n + " and another", x.after(0), 47);
        }
    }

    private static void afterMoreThanThree() {
        sentence("EVENTS: there may be more than 3 DEFECTS so");
        PlateCuts x = from("s41;p115;d00;d10;d20");
        due("told(5)", x.told(5), 5);
        x.event(1, 30);
        due("a fourth", x.after(0), 0);
        due("told(4)", x.told(4), 3);
        PlateCuts y = from("s77;p111;d00;d01;d02");
        for (int i = 1; i <= 8; i++) {
            y.event(1, 10 * (i % 6 + 1) + i / 6);
            due("3 and " + i, y.after(1), 3 + i);
        }
        due("there are as many as before", y.told(9), 3);
        due("a DEFECT by hand is still the fourth", y.defect(6, 6), FULL);
    }

    private static void afterSquaresElsewhere() {
        sentence("EVENTS: one that is not on THE PLATE as it is then counts nowhere");
        PlateCuts x = from("s77;p111");
        x.event(1, 66);
        x.event(1, 60);
        x.event(1, 6);
        due("all three", x.after(1), 3);
        x.plate(6, 6);
        due("none", x.after(1), 0);
        due("BEST", x.after(0), 36);
        x.plate(7, 6);
        due("one", x.after(1), 1);
        x.plate(6, 7);
        due("the other", x.after(1), 1);
        x.plate(1, 1);
        due("none", x.after(0), 1);
        x.plate(7, 7);
        due("all three again", x.after(1), 3);
        due("more by a square doesn't know them", x.told(5), 49);
    }

    private static void afterTurns() {
        sentence("EVENTS: 2 PART n may be TURNED, or not any more");
        PlateCuts x = from("s31;p139;t1310");
        due("no events", x.after(0), 10);
        x.event(2, 1);
        due("the second one not any more", x.after(0), 0);
        x.event(2, 0);
        due("the first one may", x.after(0), 9);
        x.event(2, 0);
        due("and not any more", x.after(0), 0);
        x.event(2, 1);
        due("the second one may again", x.after(0), 10);
        due("of(0, 3)", x.of(0, 3), 0);
        due("of(1, 3)", x.of(1, 3), 1);
        x.turn(0, true);
        x.renew(0, 2, 50);
        due("it is as it may be now that counts", x.after(0), 50);
    }

    private static void afterCheap() {
        sentence("EVENTS: 3 WORTH of PART n is 1");
        PlateCuts x = from("s21;p119;p215");
        x.event(3, 0);
        due("after(0)", x.after(0), 5);
        due("after(2)", x.after(2), 0);
        x.event(3, 1);
        due("after(0)", x.after(0), 2);
        due("after(2)", x.after(2), 1);
        x.event(3, 1);
        due("it is 1 already", x.after(0), 2);
        due("of(0, 2)", x.of(0, 2), 9);
    }

    private static void afterInOrder() {
        sentence("AFTER, behind all of it");
        PlateCuts x = from("s31;p115");
        x.event(0, 1);
        x.event(0, 2);
        due("the last KERF", x.after(0), 5);
        x.event(0, 0);
        due("the last KERF", x.after(0), 15);
        x.event(1, 10);
        x.event(3, 0);
        due("all together", x.after(0), 2);
        due("all together", x.after(1), 1);
        due("all together", x.after(2), 2);
    }

    private static void bookOfWhich() {
        sentence("book: NONE: part; BAD: n (0 .. 49)");
        due("no part at all", new PlateCuts().book(0, 0), NONE);
        PlateCuts x = from("p111;p112");
        for (int part : new int[] {-2, 2, 3, 5, LEAST, MOST}) {
            due("book(" + part + ", 0)", x.book(part, 0), NONE);
            due("book(" + part + ", 50), NONE ahead of BAD", x.book(part, 50), NONE);
            due("book(" + part + ", -1), NONE ahead of BAD", x.book(part, -1), NONE);
        }
        for (int n : new int[] {-1, 50, 51, LEAST, MOST, 256}) {
            due("book(1, " + n + ")", x.book(1, n), BAD);
        }
        due("count(2)", x.count(2), 0);
        due("book(1, 0)", x.book(1, 0), 1);
        due("book(1, 49)", x.book(1, 49), 2);
        due("count(2)", x.count(2), 2);
    }

    private static void eightOfTheBook() {
        sentence("A BOOK told by hand: 8 rows at most; FULL: 8");
        PlateCuts x = from("p111");
        for (int i = 1; i <= 8; i++) {
            due("book " + i, x.book(0, 16), i);
            due("count(2)", x.count(2), i);
        }
        due("book 9", x.book(0, 15), FULL);
        due("count(2)", x.count(2), 8);
        due("what was refused is not in it", x.looked(), WITHOUT);
        sentence("book: NONE: part; BAD: n; FULL: 8 - in this order");
        due("NONE", x.book(1, 0), NONE);
        due("BAD", x.book(0, 50), BAD);
        due("BAD", x.book(0, -1), BAD);
        due("SEEN and EVENTS have room of their own", x.see(0, 1) + x.event(3, 0), 2);
    }

    private static void bookEmptyThen() {
        sentence("book: part -1: it is empty then, 0, whatever the rest is");
        for (int n : new int[] {-1, 0, 49, 50, LEAST, MOST}) {
            PlateCuts x = from("p111");
            x.book(0, 1);
            x.see(0, 2);
            x.event(0, 1);
            due("book(-1, " + n + ")", x.book(-1, n), 0);
            due("count(0)", x.count(0), 1);
            due("count(1)", x.count(1), 1);
            due("count(2)", x.count(2), 0);
            due("looked()", x.looked(), WITHOUT);
            due("the first again", x.book(0, 2), 1);
            due("looked()", x.looked(), 0);
            due("no part at all", new PlateCuts().book(-1, n), 0);
        }
        PlateCuts full = from("p111");
        for (int i = 0; i < 8; i++) {
            full.book(0, i);
        }
        due("of 8 rows", full.book(-1, 0), 0);
        due("book", full.book(0, 16), 1);
        due("no row of before is left", full.looked(), WITHOUT);
    }

    private static void lookedRows() {
        sentence("LOOKED at: the number (from 0) of the first of these rows that is USED otherwise (-5: none)");
        due("an empty one", new PlateCuts().looked(), WITHOUT);
        for (int wrong = 0; wrong < 8; wrong++) {
            PlateCuts x = from("s21;p119;p115");
            for (int row = 0; row < 8; row++) {
                x.book(row % 2, row == wrong ? 1 : row % 2 == 0 ? 2 : 0);
                due("row " + row + ", " + wrong + " is otherwise", x.looked(), row < wrong ? WITHOUT : wrong);
            }
        }
        PlateCuts x = from("s77;p111");
        x.book(0, 49);
        due("as many as there can be", x.looked(), WITHOUT);
        x.defect(0, 0);
        due("one less", x.looked(), 0);
        x.mend();
        due("as it was", x.looked(), WITHOUT);
    }
}
