/** Terms 1 and promises 1 to 9: the plate, the kerf, the parts and the defects at their bounds, a sentence a test. */
final class PlateBoundsTest extends Sentences {
    private static final int[] FAR = {LEAST, LEAST + 1, -256, -7, MOST - 7, MOST - 1, MOST, 256, 1000};

    public static void main(String[] args) {
        begin("PlateBoundsTest");
        plateAtFirst();
        allElseAtFirst();
        plateSides();
        plateFarSides();
        plateMendsAll();
        plateKeepsAllElse();
        squaresOfEachPlate();
        kerfs();
        kerfBetween();
        partSides();
        partWorths();
        partsAsTheyCome();
        fifthAndSixthPart();
        renewedSides();
        renewedWorths();
        renewOfWhich();
        renewIsOneFactAlone();
        turnedThereAndBack();
        factsOfParts();
        defectsAtTheEdges();
        defectTwice();
        threeDefects();
        mendMany();
        finish();
    }

    private static void plateAtFirst() {
        sentence("4 at first; KERF 0 at first; no PARTS; DEFECTS none at first");
        stands(new PlateCuts(), 4, 4, 0, 0, 0);
        PlateCuts x = new PlateCuts();
        due("the last square", x.picture(3, 3), WITHOUT);
        due("beyond it", x.picture(4, 3), NONE);
        due("beyond it", x.picture(3, 4), NONE);
        due("mend()", x.mend(), 0);
        due("part 0", x.of(0, 0), NONE);
    }

    private static void allElseAtFirst() {
        sentence("a new object has nothing told by hand, no text, no image, no rows");
        PlateCuts x = new PlateCuts();
        for (int what = 0; what <= 3; what++) {
            due("count(" + what + ")", x.count(what), 0);
        }
        due("undo()", x.undo(), STATE);
        for (int tape = 0; tape <= 5; tape++) {
            due("item(" + tape + ", 0, 1)", x.item(tape, 0, 1), NOTHING);
        }
    }

    private static boolean isWithin(int v, int least, int most) {
        return least <= v && v <= most;
    }

    private static void plateSides() {
        sentence("WIDE, HIGH (1 .. 7 each): how many squares it has; BAD");
        for (int wide = -1; wide <= 9; wide++) {
            for (int high = -1; high <= 9; high++) {
                PlateCuts x = from("s26");
                boolean good = isWithin(wide, 1, 7) && isWithin(high, 1, 7);
                due("plate(" + wide + ", " + high + ")", x.plate(wide, high), good ? wide * high : BAD);
                stands(x, good ? wide : 2, good ? high : 6, 0, 0, 0);
            }
        }
    }

    private static void plateFarSides() {
        sentence("WIDE, HIGH (1 .. 7 each), far beyond: BAD");
        for (int far : FAR) {
            PlateCuts x = from("s26;d15");
            due("plate(" + far + ", 3)", x.plate(far, 3), BAD);
            due("plate(3, " + far + ")", x.plate(3, far), BAD);
            due("plate(" + far + ", " + far + ")", x.plate(far, far), BAD);
            stands(x, 2, 6, 0, 0, 1);
        }
    }

    private static void plateMendsAll() {
        sentence("THE PLATE becomes so, without DEFECTS");
        PlateCuts x = from("s33;p115;d00;d11;d22");
        due("the same once more", x.plate(3, 3), 9);
        stands(x, 3, 3, 0, 1, 0);
        due("told(5)", x.told(5), 45);
        due("a square is a defect anew", x.defect(1, 1), 1);
        due("a bad one leaves them", x.plate(3, 8), BAD);
        due("told(4)", x.told(4), 1);
        due("told(5)", x.told(5), 40);
    }

    private static void plateKeepsAllElse() {
        sentence("THE PLATE becomes so: KERF, PARTS, SEEN, EVENTS, the BOOK, THE TEXT, TAPES stay");
        PlateCuts x = from("s77;k2;p115;t7799");
        x.see(0, 1);
        x.event(1, 66);
        x.book(1, 1);
        x.book(0, 0);
        tell(x, 3, 8, 9);
        x.feed('k');
        due("plate(1, 1)", x.plate(1, 1), 1);
        stands(x, 1, 1, 2, 2, 0);
        due("of(1, 0)", x.of(1, 0), 7);
        due("of(1, 2)", x.of(1, 2), 99);
        due("of(1, 3)", x.of(1, 3), 1);
        due("count(0)", x.count(0), 1);
        due("count(1)", x.count(1), 1);
        due("count(2)", x.count(2), 2);
        due("count(3)", x.count(3), 1);
        holdsJust(x, 3, 8, 9);
        due("plate(7, 7)", x.plate(7, 7), 49);
        due("the book is as it was", x.looked(), WITHOUT);
        due("the whole is part 1", x.told(5), 99);
        due("the event's square is there again, for eight of part 0", x.after(0), 40);
    }

    private static void squaresOfEachPlate() {
        sentence("squares x (0 .. WIDE - 1), y (0 .. HIGH - 1)");
        for (int wide = 1; wide <= 7; wide++) {
            for (int high = 1; high <= 7; high++) {
                PlateCuts x = new PlateCuts();
                x.plate(wide, high);
                x.part(wide, high, 9, false);
                for (int at = -1; at <= 7; at++) {
                    due(wide + " by " + high + ": picture(" + at + ", " + (high - 1) + ")", x.picture(at, high - 1),
                        isWithin(at, 0, wide - 1) ? 0 : NONE);
                    due(wide + " by " + high + ": picture(" + (wide - 1) + ", " + at + ")", x.picture(wide - 1, at),
                        isWithin(at, 0, high - 1) ? 0 : NONE);
                }
            }
        }
    }

    private static void kerfs() {
        sentence("KERF: 0 .. 2; becomes so: what it was; BAD");
        PlateCuts x = new PlateCuts();
        due("kerf(2)", x.kerf(2), 0);
        due("the same once more", x.kerf(2), 2);
        due("kerf(1)", x.kerf(1), 2);
        due("kerf(3)", x.kerf(3), BAD);
        due("told(2)", x.told(2), 1);
        due("kerf(-1)", x.kerf(-1), BAD);
        due("told(2)", x.told(2), 1);
        for (int far : FAR) {
            due("kerf(" + far + ")", x.kerf(far), BAD);
            due("told(2)", x.told(2), 1);
        }
        due("kerf(0)", x.kerf(0), 1);
        due("told(2)", x.told(2), 0);
    }

    private static void kerfBetween() {
        sentence("the second one from k + KERF on with all that is left; if nothing is left, there is none");
        // a strip of n gives as many 1 by 1 as with a kerf behind each fit into n and one kerf more
        for (int kerf = 0; kerf <= 2; kerf++) {
            for (int n = 1; n <= 7; n++) {
                int times = (n + kerf) / (1 + kerf);
                PlateCuts x = from("p115");
                x.kerf(kerf);
                x.plate(n, 1);
                due("BEST of " + n + " by 1, kerf " + kerf, x.told(5), 5 * times);
                due("PARTS of it", x.told(7), times);
                due("WASTED of it", x.told(9), n - times);
                x.plate(1, n);
                due("BEST of 1 by " + n + ", kerf " + kerf, x.told(5), 5 * times);
                due("PARTS of it", x.told(7), times);
                due("WASTED of it", x.told(9), n - times);
            }
        }
    }

    private static void partSides() {
        sentence("each WIDE, HIGH (1 .. 7); BAD: wide, high");
        for (int side = -1; side <= 9; side++) {
            PlateCuts x = new PlateCuts();
            boolean good = isWithin(side, 1, 7);
            due("part(" + side + ", 5, 1, false)", x.part(side, 5, 1, false), good ? 0 : BAD);
            due("told(3)", x.told(3), good ? 1 : 0);
            due("of(0, 0)", x.of(0, 0), good ? side : NONE);
            PlateCuts y = new PlateCuts();
            due("part(5, " + side + ", 1, true)", y.part(5, side, 1, true), good ? 0 : BAD);
            due("told(3)", y.told(3), good ? 1 : 0);
            due("of(0, 1)", y.of(0, 1), good ? side : NONE);
        }
        PlateCuts x = new PlateCuts();
        for (int far : FAR) {
            due("part(" + far + ", 1, 1, true)", x.part(far, 1, 1, true), BAD);
            due("part(1, " + far + ", 1, true)", x.part(1, far, 1, true), BAD);
        }
        due("told(3)", x.told(3), 0);
    }

    private static void partWorths() {
        sentence("with a WORTH (1 .. 99); BAD: worth");
        int[] worths = {-1, 0, 1, 2, 98, 99, 100, 101, 127, 355};
        for (int worth : worths) {
            PlateCuts x = from("s11");
            boolean good = isWithin(worth, 1, 99);
            due("part(1, 1, " + worth + ", false)", x.part(1, 1, worth, false), good ? 0 : BAD);
            due("told(3)", x.told(3), good ? 1 : 0);
            due("told(5)", x.told(5), good ? worth : 0);
        }
        PlateCuts x = new PlateCuts();
        for (int far : FAR) {
            due("part(1, 1, " + far + ", true)", x.part(1, 1, far, true), BAD);
        }
        due("told(3)", x.told(3), 0);
    }

    private static void partsAsTheyCome() {
        sentence("PARTS 0 .. 4, as they come: its number");
        PlateCuts x = from("s77");
        for (int part = 0; part <= 4; part++) {
            due("of the one that is to come", x.of(part, 0), NONE);
            due("part " + part, x.part(part + 1, 7 - part, 90 + part, part % 2 == 0), part);
            due("told(3)", x.told(3), part + 1);
        }
        for (int part = 0; part <= 4; part++) {
            due("of(" + part + ", 0)", x.of(part, 0), part + 1);
            due("of(" + part + ", 1)", x.of(part, 1), 7 - part);
            due("of(" + part + ", 2)", x.of(part, 2), 90 + part);
            due("of(" + part + ", 3)", x.of(part, 3), part % 2 == 0 ? 1 : 0);
        }
        due("of(5, 0)", x.of(5, 0), NONE);
    }

    private static void fifthAndSixthPart() {
        sentence("FULL: 5");
        PlateCuts x = from("s11;p771;p771;p771;p771");
        due("the fifth", x.part(7, 7, 1, false), 4);
        due("the sixth", x.part(1, 1, 99, false), FULL);
        due("once more", x.part(1, 1, 99, true), FULL);
        due("told(3)", x.told(3), 5);
        due("it is none", x.told(5), 0);
        sentence("BAD: wide, high, worth; FULL: 5 - in this order");
        due("part(0, 1, 1, true)", x.part(0, 1, 1, true), BAD);
        due("part(1, 8, 1, true)", x.part(1, 8, 1, true), BAD);
        due("part(1, 1, 0, true)", x.part(1, 1, 0, true), BAD);
        due("part(1, 1, 100, true)", x.part(1, 1, 100, true), BAD);
    }

    private static void renewedSides() {
        sentence("Of a PART what 0 WIDE, 1 HIGH becomes v (1 .. 7): what it was; BAD: v");
        for (int what = 0; what <= 1; what++) {
            for (int v = -1; v <= 9; v++) {
                PlateCuts x = from("p447");
                boolean good = isWithin(v, 1, 7);
                due("renew(0, " + what + ", " + v + ")", x.renew(0, what, v), good ? 4 : BAD);
                due("of(0, " + what + ")", x.of(0, what), good ? v : 4);
                due("of(0, " + (1 - what) + ")", x.of(0, 1 - what), 4);
                due("of(0, 2)", x.of(0, 2), 7);
            }
            for (int far : FAR) {
                PlateCuts x = from("p447");
                due("renew(0, " + what + ", " + far + ")", x.renew(0, what, far), BAD);
                due("of(0, " + what + ")", x.of(0, what), 4);
            }
        }
    }

    private static void renewedWorths() {
        sentence("Of a PART what 2 WORTH becomes v (1 .. 99): what it was; BAD: v");
        int[] worths = {-1, 0, 1, 8, 98, 99, 100, 355};
        for (int v : worths) {
            PlateCuts x = from("p447");
            boolean good = isWithin(v, 1, 99);
            due("renew(0, 2, " + v + ")", x.renew(0, 2, v), good ? 7 : BAD);
            due("of(0, 2)", x.of(0, 2), good ? v : 7);
            due("told(5)", x.told(5), good ? v : 7);
        }
        for (int far : FAR) {
            PlateCuts x = from("p447");
            due("renew(0, 2, " + far + ")", x.renew(0, 2, far), BAD);
            due("of(0, 2)", x.of(0, 2), 7);
        }
    }

    private static void renewOfWhich() {
        sentence("renew: NONE: part, what");
        PlateCuts none = new PlateCuts();
        due("no part at all", none.renew(0, 0, 1), NONE);
        PlateCuts x = from("p231;p451");
        due("the last one", x.renew(1, 1, 6), 5);
        int[] noParts = {-1, 2, 5, LEAST, MOST};
        for (int part : noParts) {
            due("renew(" + part + ", 0, 1)", x.renew(part, 0, 1), NONE);
        }
        int[] noWhats = {-1, 3, 4, LEAST, MOST};
        for (int what : noWhats) {
            due("renew(0, " + what + ", 1)", x.renew(0, what, 1), NONE);
        }
        sentence("renew: NONE: part, what; BAD: v - in this order");
        for (int part : noParts) {
            due("renew(" + part + ", 0, 8)", x.renew(part, 0, 8), NONE);
            due("renew(" + part + ", 2, 0)", x.renew(part, 2, 0), NONE);
        }
        for (int what : noWhats) {
            due("renew(1, " + what + ", 100)", x.renew(1, what, 100), NONE);
            due("renew(1, " + what + ", 0)", x.renew(1, what, 0), NONE);
        }
        due("all is as it was", x.of(0, 0), 2);
        due("all is as it was", x.of(1, 0), 4);
        due("all is as it was", x.of(1, 3), 0);
    }

    private static void renewIsOneFactAlone() {
        sentence("renew: of one PART one fact becomes v, no other");
        PlateCuts x = from("t123;p456;t678");
        due("renew(1, 1, 7)", x.renew(1, 1, 7), 5);
        int[][] facts = {{1, 2, 3, 1}, {4, 7, 6, 0}, {6, 7, 8, 1}};
        for (int part = 0; part < 3; part++) {
            for (int what = 0; what <= 3; what++) {
                due("of(" + part + ", " + what + ")", x.of(part, what), facts[part][what]);
            }
        }
    }

    private static void turnedThereAndBack() {
        sentence("turn: what it was (1, 0); NONE");
        PlateCuts x = from("p121;t341");
        due("turn(0, false)", x.turn(0, false), 0);
        due("turn(0, true)", x.turn(0, true), 0);
        due("turn(0, true)", x.turn(0, true), 1);
        due("turn(1, false)", x.turn(1, false), 1);
        due("of(0, 3)", x.of(0, 3), 1);
        due("of(1, 3)", x.of(1, 3), 0);
        due("it is still as wide", x.of(0, 0), 1);
        due("it is still as high", x.of(0, 1), 2);
        int[] noParts = {-1, 2, 5, LEAST, MOST};
        for (int part : noParts) {
            due("turn(" + part + ", true)", x.turn(part, true), NONE);
        }
        due("no part at all", new PlateCuts().turn(0, false), NONE);
        due("of(1, 3)", x.of(1, 3), 0);
    }

    private static void factsOfParts() {
        sentence("of: 0 WIDE .. 4 USED; NONE");
        PlateCuts x = from("s22;p119;t7635");
        int[][] facts = {{1, 1, 9, 0, 4}, {7, 6, 35, 1, 0}};
        for (int part = 0; part <= 1; part++) {
            for (int what = -1; what <= 5; what++) {
                due("of(" + part + ", " + what + ")", x.of(part, what),
                    isWithin(what, 0, 4) ? facts[part][what] : NONE);
            }
        }
        int[] noNumbers = {-1, 2, 5, LEAST, MOST};
        for (int no : noNumbers) {
            due("of(" + no + ", 2)", x.of(no, 2), NONE);
            due("of(" + no + ", 4)", x.of(no, 4), NONE);
        }
        due("of(0, LEAST)", x.of(0, LEAST), NONE);
        due("of(0, MOST)", x.of(0, MOST), NONE);
    }

    private static void defectsAtTheEdges() {
        sentence("a square is a DEFECT: how many there are; NONE: x, y");
        int[][] plates = {{1, 1}, {7, 7}, {7, 1}, {1, 7}, {3, 5}};
        for (int[] plate : plates) {
            for (int x = -1; x <= 7; x++) {
                for (int y = -1; y <= 7; y++) {
                    PlateCuts one = from("p111");
                    one.plate(plate[0], plate[1]);
                    boolean there = isWithin(x, 0, plate[0] - 1) && isWithin(y, 0, plate[1] - 1);
                    due(plate[0] + " by " + plate[1] + ": defect(" + x + ", " + y + ")", one.defect(x, y),
                        there ? 1 : NONE);
                    due("told(4)", one.told(4), there ? 1 : 0);
                    due("told(9)", one.told(9), there ? 1 : 0);
                    due("picture", one.picture(x, y), there ? WITHOUT : NONE);
                }
            }
        }
        PlateCuts x = from("s77;p111");
        for (int far : FAR) {
            due("defect(" + far + ", 0)", x.defect(far, 0), NONE);
            due("defect(0, " + far + ")", x.defect(0, far), NONE);
        }
        due("told(4)", x.told(4), 0);
    }

    private static void defectTwice() {
        sentence("defect: STATE: it is one");
        PlateCuts x = from("s34");
        due("defect(2, 3)", x.defect(2, 3), 1);
        due("defect(2, 3)", x.defect(2, 3), STATE);
        due("told(4)", x.told(4), 1);
        due("its neighbour isn't one", x.defect(1, 3), 2);
        due("defect(1, 3)", x.defect(1, 3), STATE);
        due("told(4)", x.told(4), 2);
    }

    private static void threeDefects() {
        sentence("DEFECTS: 3 at most; FULL: 3");
        PlateCuts x = from("s33;p111;d00;d11");
        due("the third", x.defect(2, 2), 3);
        due("a fourth", x.defect(0, 1), FULL);
        due("told(4)", x.told(4), 3);
        due("it is none", x.told(5), 6);
        sentence("NONE: x, y; STATE: it is one; FULL: 3 - in this order");
        due("one that is one", x.defect(0, 0), STATE);
        due("one that is one", x.defect(2, 2), STATE);
        due("one that is not there", x.defect(3, 0), NONE);
        due("one that is not there", x.defect(0, -1), NONE);
        due("told(4)", x.told(4), 3);
    }

    private static void mendMany() {
        sentence("there are no DEFECTS any more: how many there were");
        for (int many = 0; many <= 3; many++) {
            PlateCuts x = from("s33;p111");
            for (int i = 0; i < many; i++) {
                x.defect(i, i);
            }
            due("mend()", x.mend(), many);
            due("told(4)", x.told(4), 0);
            due("told(5)", x.told(5), 9);
            due("mend()", x.mend(), 0);
            due("three come again", x.defect(0, 0) + x.defect(1, 1) + x.defect(2, 2), 6);
        }
    }
}
