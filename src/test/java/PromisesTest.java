/** Each promise of the document by its number: ordinary calls, edges, wrong ones; the answers were worked out by hand. */
final class PromisesTest extends Sentences {
    public static void main(String[] args) {
        begin("PromisesTest");
        newObject();
        plate();
        kerf();
        part();
        renew();
        turn();
        of();
        defect();
        mend();
        feed();
        read();
        readFaults();
        best();
        is();
        told();
        node();
        nodeChoices();
        picture();
        staged();
        sizes();
        more();
        bound();
        see();
        fits();
        odds();
        mean();
        event();
        after();
        book();
        looked();
        judge();
        image();
        undo();
        count();
        tape();
        item();
        peek();
        shift();
        finish();
    }

    private static void newObject() {
        sentence("promise 1");
        PlateCuts x = new PlateCuts();
        stands(x, 4, 4, 0, 0, 0);
        due("told(5)", x.told(5), 0);
        due("NONE", PlateCuts.NONE, NONE);
        due("BAD", PlateCuts.BAD, BAD);
        due("STATE", PlateCuts.STATE, STATE);
        due("FULL", PlateCuts.FULL, FULL);
        due("NO", PlateCuts.NO, NO);
        for (int tape = 0; tape < 6; tape++) {
            due("peek(" + tape + ", 0)", x.peek(tape, 0), NO);
            due("item(" + tape + ", 0, 1)", x.item(tape, 0, 1), NOTHING);
        }
        PlateCuts other = new PlateCuts();
        x.plate(2, 3);
        x.part(1, 1, 1, true);
        stands(other, 4, 4, 0, 0, 0);
    }

    private static void plate() {
        sentence("promise 2");
        PlateCuts x = from("k1;p115");
        due("plate(1, 1)", x.plate(1, 1), 1);
        due("plate(7, 7)", x.plate(7, 7), 49);
        due("plate(3, 5)", x.plate(3, 5), 15);
        x.defect(0, 0);
        x.defect(2, 4);
        due("plate(0, 5)", x.plate(0, 5), BAD);
        due("plate(8, 5)", x.plate(8, 5), BAD);
        due("plate(5, 0)", x.plate(5, 0), BAD);
        due("plate(5, 8)", x.plate(5, 8), BAD);
        due("plate(-1, 5)", x.plate(-1, 5), BAD);
        due("plate(LEAST, MOST)", x.plate(LEAST, MOST), BAD);
        stands(x, 3, 5, 1, 1, 2);
        due("plate(3, 5)", x.plate(3, 5), 15);
        stands(x, 3, 5, 1, 1, 0);
        due("told(5)", x.told(5), 30);
        x.plate(1, 5);
        due("told(5)", x.told(5), 15);
    }

    private static void kerf() {
        sentence("promise 3");
        PlateCuts x = from("s31;p115");
        due("told(5)", x.told(5), 15);
        due("kerf(1)", x.kerf(1), 0);
        due("told(5)", x.told(5), 10);
        due("kerf(2)", x.kerf(2), 1);
        due("told(5)", x.told(5), 5);
        due("kerf(3)", x.kerf(3), BAD);
        due("kerf(-1)", x.kerf(-1), BAD);
        due("told(2)", x.told(2), 2);
        due("kerf(0)", x.kerf(0), 2);
        due("told(5)", x.told(5), 15);
    }

    private static void part() {
        sentence("promise 4");
        PlateCuts x = new PlateCuts();
        due("told(5)", x.told(5), 0);
        due("part(1, 7, 99, true)", x.part(1, 7, 99, true), 0);
        due("part(7, 1, 1, false)", x.part(7, 1, 1, false), 1);
        due("part(0, 1, 1, true)", x.part(0, 1, 1, true), BAD);
        due("part(8, 1, 1, true)", x.part(8, 1, 1, true), BAD);
        due("part(1, 0, 1, true)", x.part(1, 0, 1, true), BAD);
        due("part(1, 8, 1, true)", x.part(1, 8, 1, true), BAD);
        due("part(1, 1, 0, true)", x.part(1, 1, 0, true), BAD);
        due("part(1, 1, 100, true)", x.part(1, 1, 100, true), BAD);
        due("told(3)", x.told(3), 2);
        due("part(2, 2, 2, true)", x.part(2, 2, 2, true), 2);
        due("part(3, 3, 3, true)", x.part(3, 3, 3, true), 3);
        due("part(3, 3, 3, true)", x.part(3, 3, 3, true), 4);
        due("part(3, 3, 3, true)", x.part(3, 3, 3, true), FULL);
        due("a bad one ahead of FULL", x.part(3, 3, 100, true), BAD);
        due("told(3)", x.told(3), 5);
        due("of(0, 3)", x.of(0, 3), 1);
        due("of(1, 0)", x.of(1, 0), 7);
        due("of(1, 3)", x.of(1, 3), 0);
        due("told(5)", x.told(5), 8);
    }

    private static void renew() {
        sentence("promise 5");
        PlateCuts x = from("s22;p221;p119");
        due("told(5)", x.told(5), 36);
        due("renew(1, 0, 2)", x.renew(1, 0, 2), 1);
        due("told(5)", x.told(5), 18);
        due("renew(1, 1, 7)", x.renew(1, 1, 7), 1);
        due("told(5)", x.told(5), 1);
        due("renew(0, 2, 99)", x.renew(0, 2, 99), 1);
        due("told(5)", x.told(5), 99);
        due("renew(0, 2, 1)", x.renew(0, 2, 1), 99);
        due("renew(0, 0, 8)", x.renew(0, 0, 8), BAD);
        due("renew(0, 0, 0)", x.renew(0, 0, 0), BAD);
        due("renew(0, 1, 8)", x.renew(0, 1, 8), BAD);
        due("renew(0, 2, 100)", x.renew(0, 2, 100), BAD);
        due("renew(0, 2, 0)", x.renew(0, 2, 0), BAD);
        due("renew(2, 0, 1)", x.renew(2, 0, 1), NONE);
        due("renew(-1, 0, 1)", x.renew(-1, 0, 1), NONE);
        due("renew(0, 3, 1)", x.renew(0, 3, 1), NONE);
        due("renew(0, -1, 1)", x.renew(0, -1, 1), NONE);
        due("NONE ahead of BAD", x.renew(0, 3, 100), NONE);
        due("of(0, 0)", x.of(0, 0), 2);
        due("of(0, 1)", x.of(0, 1), 2);
        due("of(0, 2)", x.of(0, 2), 1);
        due("of(1, 0)", x.of(1, 0), 2);
        due("of(1, 1)", x.of(1, 1), 7);
    }

    private static void turn() {
        sentence("promise 6");
        PlateCuts x = from("s13;p314");
        due("told(5)", x.told(5), 0);
        due("turn(0, true)", x.turn(0, true), 0);
        due("told(5)", x.told(5), 4);
        due("turn(0, true)", x.turn(0, true), 1);
        due("turn(0, false)", x.turn(0, false), 1);
        due("turn(0, false)", x.turn(0, false), 0);
        due("told(5)", x.told(5), 0);
        due("turn(1, true)", x.turn(1, true), NONE);
        due("turn(-1, true)", x.turn(-1, true), NONE);
    }

    private static void of() {
        sentence("promise 7");
        PlateCuts x = from("s52;t235;p117");
        due("of(0, 0)", x.of(0, 0), 2);
        due("of(0, 1)", x.of(0, 1), 3);
        due("of(0, 2)", x.of(0, 2), 5);
        due("of(0, 3)", x.of(0, 3), 1);
        due("of(0, 4)", x.of(0, 4), 0);
        due("of(1, 3)", x.of(1, 3), 0);
        due("of(1, 4)", x.of(1, 4), 10);
        due("of(0, 5)", x.of(0, 5), NONE);
        due("of(0, -1)", x.of(0, -1), NONE);
        due("of(2, 0)", x.of(2, 0), NONE);
        due("of(-1, 4)", x.of(-1, 4), NONE);
        x.renew(1, 2, 1);
        due("3 by 2 for 5 is less than six for 1 each", x.of(0, 4), 0);
        x.renew(0, 2, 60);
        due("of(0, 4)", x.of(0, 4), 1);
        due("of(1, 4)", x.of(1, 4), 4);
    }

    private static void defect() {
        sentence("promise 8");
        PlateCuts x = from("s32;p111");
        due("defect(3, 0)", x.defect(3, 0), NONE);
        due("defect(0, 2)", x.defect(0, 2), NONE);
        due("defect(-1, 0)", x.defect(-1, 0), NONE);
        due("defect(0, -1)", x.defect(0, -1), NONE);
        due("defect(MOST, LEAST)", x.defect(MOST, LEAST), NONE);
        due("defect(2, 1)", x.defect(2, 1), 1);
        due("told(5)", x.told(5), 5);
        due("defect(2, 1)", x.defect(2, 1), STATE);
        due("defect(0, 0)", x.defect(0, 0), 2);
        due("defect(1, 1)", x.defect(1, 1), 3);
        due("told(5)", x.told(5), 3);
        due("defect(1, 0)", x.defect(1, 0), FULL);
        due("STATE ahead of FULL", x.defect(1, 1), STATE);
        due("NONE ahead of FULL", x.defect(3, 1), NONE);
        due("told(4)", x.told(4), 3);
        due("best(1, 0, 1, 1)", x.best(1, 0, 1, 1), 1);
        due("best(1, 1, 1, 1)", x.best(1, 1, 1, 1), 0);
    }

    private static void mend() {
        sentence("promise 9");
        PlateCuts x = from("s22;p111;d00;d11");
        due("told(5)", x.told(5), 2);
        due("mend()", x.mend(), 2);
        due("told(4)", x.told(4), 0);
        due("told(5)", x.told(5), 4);
        due("mend()", x.mend(), 0);
        due("defect(0, 0)", x.defect(0, 0), 1);
    }

    private static void feed() {
        sentence("promise 10");
        PlateCuts x = new PlateCuts();
        due("feed(-1)", x.feed(-1), BAD);
        due("feed(128)", x.feed(128), BAD);
        due("feed(0)", x.feed(0), 1);
        due("feed(127)", x.feed(127), 2);
        due("count(3)", x.count(3), 2);
        for (int i = 3; i <= 100; i++) {
            due("feed('1')", x.feed('1'), i);
        }
        due("feed('1')", x.feed('1'), FULL);
        due("BAD ahead of FULL", x.feed(128), BAD);
        due("count(3)", x.count(3), 100);
        due("read()", x.read(), -10);
        due("count(3)", x.count(3), 0);
        due("feed('1')", x.feed('1'), 1);
    }

    private static void read() {
        sentence("promise 11");
        PlateCuts x = new PlateCuts();
        due("s57", readAll(x, "s57"), 1);
        due("count(3)", x.count(3), 0);
        stands(x, 5, 7, 0, 0, 0);
        due("k2;p121;t3499;d46", readAll(x, "k2;p121;t3499;d46"), 4);
        stands(x, 5, 7, 2, 2, 1);
        due("of(0, 2)", x.of(0, 2), 1);
        due("of(0, 3)", x.of(0, 3), 0);
        due("of(1, 0)", x.of(1, 0), 3);
        due("of(1, 1)", x.of(1, 1), 4);
        due("of(1, 2)", x.of(1, 2), 99);
        due("of(1, 3)", x.of(1, 3), 1);
        due("all refused", readAll(x, "s05;s58;k3;p181;p110;p1100;t010;d46;d57;d50"), 0);
        stands(x, 5, 7, 2, 2, 1);
        due("a plate takes its defects along", readAll(x, "d00;s33;d22;d33"), 3);
        stands(x, 3, 3, 2, 2, 1);
        due("worth 05 is 5", readAll(x, "p1105"), 1);
        due("of(2, 2)", x.of(2, 2), 5);
        due("as many as there is room for", readAll(x, "p111;t111;p111;d00;d01;d02;d10"), 4);
        stands(x, 3, 3, 2, 5, 3);
        due("twelve", readAll(x, "k0;k1;k2;k0;k1;k2;k0;k1;k2;k0;k1;k0"), 12);
        due("told(2)", x.told(2), 0);
    }

    private static void readFaults() {
        sentence("promise 11");
        PlateCuts x = new PlateCuts();
        due("read() of nothing", x.read(), -10);
        due("s", readAll(x, "s"), -11);
        due("s4", readAll(x, "s4"), -12);
        due("s44;", readAll(x, "s44;"), -14);
        due("k", readAll(x, "k"), -11);
        due("p", readAll(x, "p"), -11);
        due("p11", readAll(x, "p11"), -13);
        due("d1", readAll(x, "d1"), -12);
        due("x44", readAll(x, "x44"), -10);
        due("; first", readAll(x, ";s44"), -10);
        due("S44", readAll(x, "S44"), -10);
        due("a blank", readAll(x, "s 44"), -11);
        due("s4x", readAll(x, "s4x"), -12);
        due("s444", readAll(x, "s444"), -13);
        due("k11", readAll(x, "k11"), -12);
        due("d111", readAll(x, "d111"), -13);
        due("p11;", readAll(x, "p11;"), -13);
        due("p11111", readAll(x, "p11111"), -15);
        due("t111x", readAll(x, "t111x"), -14);
        due("two ;", readAll(x, "k1;;k2"), -13);
        due("the last of several", readAll(x, "s77;k2;p111;q"), -22);
        due("a thirteenth", readAll(x, "k0;k1;k2;k0;k1;k2;k0;k1;k2;k0;k1;k0;k1"), -45);
        due("a ; behind the twelfth", readAll(x, "k0;k1;k2;k0;k1;k2;k0;k1;k2;k0;k1;k0;"), -45);
        due("sign 0", readAll(x, "k" + (char) 0), -11);
        due("signs around digits", readAll(x, "k/"), -11);
        due("signs around digits", readAll(x, "k:"), -11);
        due("count(3)", x.count(3), 0);
        stands(x, 4, 4, 0, 0, 0);
    }

    private static void best() {
        sentence("promise 12");
        PlateCuts x = from("s54;p217;p1210;p118;d00");
        due("best(0, 0, 1, 1)", x.best(0, 0, 1, 1), 0);
        due("best(1, 0, 1, 1)", x.best(1, 0, 1, 1), 8);
        due("best(0, 0, 2, 1)", x.best(0, 0, 2, 1), 8);
        due("best(1, 1, 2, 1)", x.best(1, 1, 2, 1), 16);
        due("the whole", x.best(0, 0, 5, 4), 152);
        due("best(4, 3, 1, 1)", x.best(4, 3, 1, 1), 8);
        x.kerf(2);
        due("with a kerf the part as it is", x.best(1, 1, 1, 2), 10);
        due("two in four", x.best(1, 0, 1, 4), 16);
        due("a strip that is too small for both", x.best(1, 0, 1, 3), 10);
        due("best(5, 0, 1, 1)", x.best(5, 0, 1, 1), NONE);
        due("best(4, 0, 2, 1)", x.best(4, 0, 2, 1), NONE);
        due("best(0, 3, 1, 2)", x.best(0, 3, 1, 2), NONE);
        due("best(-1, 0, 1, 1)", x.best(-1, 0, 1, 1), NONE);
        due("best(0, -1, 1, 1)", x.best(0, -1, 1, 1), NONE);
        due("best(0, 0, 0, 1)", x.best(0, 0, 0, 1), NONE);
        due("best(0, 0, 1, 0)", x.best(0, 0, 1, 0), NONE);
        due("best(MOST, 0, MOST, 1)", x.best(MOST, 0, MOST, 1), NONE);
        due("best(1, MOST, 1, 1)", x.best(1, MOST, 1, 1), NONE);
        due("best(0, 0, 1, MOST)", x.best(0, 0, 1, MOST), NONE);
        due("best(LEAST, LEAST, LEAST, LEAST)", x.best(LEAST, LEAST, LEAST, LEAST), NONE);
    }

    private static void is() {
        sentence("promise 13");
        PlateCuts x = from("s44;t321;p235;p239;d33");
        due("is(0, 0, 2, 3)", x.is(0, 0, 2, 3), 0);
        due("is(0, 0, 3, 2)", x.is(0, 0, 3, 2), 0);
        due("is(1, 2, 3, 2)", x.is(1, 2, 3, 2), WITHOUT);
        due("is(0, 0, 2, 2)", x.is(0, 0, 2, 2), WITHOUT);
        x.turn(0, false);
        due("is(0, 0, 2, 3)", x.is(0, 0, 2, 3), 1);
        due("is(0, 0, 3, 2)", x.is(0, 0, 3, 2), 0);
        due("is(0, 0, 5, 1)", x.is(0, 0, 5, 1), NONE);
        due("is(2, 0, 3, 2)", x.is(2, 0, 3, 2), NONE);
        due("is(0, 2, 2, 3)", x.is(0, 2, 2, 3), NONE);
        due("is(0, 0, 0, 0)", x.is(0, 0, 0, 0), NONE);
        due("is(MOST, MOST, 1, 1)", x.is(MOST, MOST, 1, 1), NONE);
    }

    private static void told() {
        sentence("promise 14");
        PlateCuts x = from("s53;k1;p229;d00");
        // upright at 1: 1 by 3 is waste; 3 by 3 from x = 2 on upright at 2, level at 2: the part, and nothing more
        stands(x, 5, 3, 1, 1, 1);
        due("told(5)", x.told(5), 9);
        due("told(6)", x.told(6), 5);
        due("told(7)", x.told(7), 1);
        due("told(8)", x.told(8), 3);
        due("told(9)", x.told(9), 11);
        due("told(10)", x.told(10), 3);
        due("told(-1)", x.told(-1), NONE);
        due("told(11)", x.told(11), NONE);
        due("told(MOST)", x.told(MOST), NONE);
        PlateCuts y = from("s31;k2;p115");
        // cut at 1: nothing is left for a second one
        due("told(6)", y.told(6), 2);
        due("told(7)", y.told(7), 1);
        due("told(8)", y.told(8), 1);
        due("told(9)", y.told(9), 2);
        due("told(10)", y.told(10), 1);
        PlateCuts z = from("s77;p111");
        due("told(6)", z.told(6), 97);
        due("told(7)", z.told(7), 49);
        due("told(8)", z.told(8), 48);
        due("told(9)", z.told(9), 0);
        due("told(10)", z.told(10), 12);
        z.plate(1, 4);
        due("level cuts one under another", z.told(10), 3);
        PlateCuts deepFirst = from("s22;p219;p111;d00");
        due("level, and the first one upright", deepFirst.told(10), 2);
        due("told(6)", deepFirst.told(6), 5);
        due("told(9)", deepFirst.told(9), 1);
        z.plate(7, 7);
        z.renew(0, 0, 7);
        z.renew(0, 1, 7);
        due("told(6)", z.told(6), 1);
        due("told(8)", z.told(8), 0);
        due("told(10)", z.told(10), 0);
    }

    private static void node() {
        sentence("promise 15");
        PlateCuts x = from("s43;k1;p129");
        // upright at 1: 1 by 3, then 2 by 3 from x = 2 on
        int[][] due = {
            {2, 0, 0, 4, 3, 1, WITHOUT, 18},
            {3, 0, 0, 1, 3, 2, 0, 9},
            {1, 0, 0, 1, 2, 0, 1, 9},
            {2, 2, 0, 2, 3, 1, 0, 9},
            {3, 2, 0, 1, 3, 2, 3, 9},
            {1, 2, 0, 1, 2, 0, 4, 9},
        };
        looksSo(x, due);
        due("node(6, 0)", x.node(6, 0), NONE);
        due("node(-1, 0)", x.node(-1, 0), NONE);
        due("node(0, 8)", x.node(0, 8), NONE);
        due("node(0, -1)", x.node(0, -1), NONE);
        due("node(MOST, 0)", x.node(MOST, 0), NONE);
        PlateCuts y = from("s31;p213;d00");
        int[][] wasteFirst = {
            {2, 0, 0, 3, 1, 1, WITHOUT, 3},
            {0, 0, 0, 1, 1, WITHOUT, 0, 0},
            {1, 1, 0, 2, 1, 0, 0, 3},
        };
        looksSo(y, wasteFirst);
    }

    private static void nodeChoices() {
        sentence("promise 15");
        PlateCuts same = from("s22;p223;p225;p225;p111");
        due("of several as dear the least", same.node(0, 5), 1);
        due("a part", same.node(0, 0), 1);
        same.renew(3, 2, 2);
        due("a cut that gives more than it", same.node(0, 0), 2);
        same.renew(1, 2, 8);
        due("a part goes ahead of cuts as good", same.node(0, 0), 1);
        due("a part goes ahead of cuts as good", same.node(0, 5), 1);
        PlateCuts level = from("s23;p215");
        due("level where upright is less", level.node(0, 0), 3);
        due("at the least k", level.node(0, 5), 1);
        PlateCuts late = from("s52;p429;d00");
        due("the only k", late.node(0, 0), 2);
        due("the only k", late.node(0, 5), 1);
        PlateCuts turned = from("s24;t421");
        due("a part that is turned", turned.node(0, 0), 1);
    }

    private static void picture() {
        sentence("promise 16");
        PlateCuts x = from("s43;k1;p129;p114");
        // upright at 1 (1 by 3: part 0, or 1 + 1 by a kerf: 8), the second from x = 2 on likewise
        int[][] rows = {
            {0, WITHOUT, 0, WITHOUT},
            {0, WITHOUT, 0, WITHOUT},
            {WITHOUT, WITHOUT, WITHOUT, WITHOUT},
        };
        for (int y = 0; y < 3; y++) {
            for (int at = 0; at < 4; at++) {
                due("picture(" + at + ", " + y + ")", x.picture(at, y), rows[y][at]);
            }
        }
        due("picture(4, 0)", x.picture(4, 0), NONE);
        due("picture(0, 3)", x.picture(0, 3), NONE);
        due("picture(-1, 0)", x.picture(-1, 0), NONE);
        due("picture(0, -1)", x.picture(0, -1), NONE);
        due("picture(LEAST, MOST)", x.picture(LEAST, MOST), NONE);
        PlateCuts y = from("s21;p112;p113");
        due("picture(0, 0)", y.picture(0, 0), 1);
        due("picture(1, 0)", y.picture(1, 0), 1);
        PlateCuts z = from("s22;p212;p111;d00");
        due("picture(0, 0)", z.picture(0, 0), WITHOUT);
        due("picture(1, 0)", z.picture(1, 0), 1);
        due("picture(0, 1)", z.picture(0, 1), 1);
        due("picture(1, 1)", z.picture(1, 1), 1);
        PlateCuts one = from("s23;p234");
        due("the plate is the part", one.picture(1, 2), 0);
    }

    private static void staged() {
        sentence("promise 17");
        // a strip of 3 by 1, and below it three of 1 by 2: level first, then upright
        PlateCuts x = from("s33;p315;p127");
        due("staged(1, 0)", x.staged(1, 0), 0);
        due("staged(1, 1)", x.staged(1, 1), 15);
        due("upright, then level: 1 by 2, thrice", x.staged(2, 0), 21);
        due("level, then upright", x.staged(2, 1), 26);
        due("staged(3, 0)", x.staged(3, 0), 26);
        due("staged(3, 1)", x.staged(3, 1), 26);
        due("told(5)", x.told(5), 26);
        x.kerf(1);
        due("staged(1, 1)", x.staged(1, 1), 10);
        due("staged(2, 0)", x.staged(2, 0), 14);
        PlateCuts y = from("s22;p221");
        due("a part without any cut", y.staged(1, 0), 1);
        PlateCuts three = from("s32;p124;p113");
        due("staged(1, 0)", three.staged(1, 0), 12);
        due("staged(2, 0)", three.staged(2, 0), 18);
        three.defect(0, 0);
        due("staged(1, 0)", three.staged(1, 0), 8);
        due("staged(1, 1)", three.staged(1, 1), 0);
        due("staged(0, 0)", x.staged(0, 0), BAD);
        due("staged(4, 0)", x.staged(4, 0), BAD);
        due("staged(1, -1)", x.staged(1, -1), BAD);
        due("staged(1, 2)", x.staged(1, 2), BAD);
        due("told(5)", x.told(5), 14);
    }

    private static void sizes() {
        sentence("promise 18");
        PlateCuts x = from("s75;p231");
        due("0 2 4 6", x.sizes(0), 1 + 4 + 16 + 64);
        due("0 3", x.sizes(1), 1 + 8);
        x.kerf(1);
        due("0 2 5", x.sizes(0), 1 + 4 + 32);
        x.kerf(2);
        due("0 2 6", x.sizes(0), 1 + 4 + 64);
        x.turn(0, true);
        due("0 2 3 6 7", x.sizes(0), 1 + 4 + 8 + 64 + 128);
        due("0 2 3", x.sizes(1), 1 + 4 + 8);
        x.part(6, 7, 1, false);
        due("too high", x.sizes(1), 1 + 4 + 8);
        due("no part", new PlateCuts().sizes(1), 1);
        PlateCuts ones = from("s72;p111;k1");
        due("0 1 3 5 7", ones.sizes(0), 1 + 2 + 8 + 32 + 128);
        due("0 1", ones.sizes(1), 1 + 2);
        due("sizes(2)", x.sizes(2), NONE);
        due("sizes(-1)", x.sizes(-1), NONE);
    }

    private static void more() {
        sentence("promise 19");
        PlateCuts x = from("s36;p223;p172");
        due("more(0)", x.more(0), 9);
        due("three of 2 by 2, and one of 1 by 7", x.more(1), 2);
        x.renew(0, 2, 1);
        due("three of 1 by 7", x.more(1), 3);
        PlateCuts y = from("s71;p719;p124");
        due("more(0)", y.more(0), NO);
        due("more(1)", y.more(1), 19);
        PlateCuts z = from("s22;p335;d11");
        due("a defect stays", z.more(0), 0);
        z.mend();
        due("more(1)", z.more(1), 0);
        z.plate(3, 2);
        due("more(1)", z.more(1), 5);
        z.defect(0, 1);
        due("more(1)", z.more(1), 0);
        due("more(2)", z.more(2), NO);
        due("more(-1)", z.more(-1), NO);
        PlateCuts tall = from("s17;p111");
        due("more(1)", tall.more(1), NO);
        due("more(0)", tall.more(0), 7);
        stands(tall, 1, 7, 0, 1, 0);
    }

    private static void bound() {
        sentence("promise 20");
        PlateCuts x = from("s43;p327");
        due("7 / 6 * 12 above", x.bound(0), 14);
        due("below", x.bound(1), 1);
        x.part(5, 1, 6, false);
        due("6 / 5 * 12 above", x.bound(0), 72);
        due("below", x.bound(1), 5);
        due("bound(2)", x.bound(2), NO);
        due("bound(-1)", x.bound(-1), NO);
        due("no parts above", new PlateCuts().bound(0), NO);
        due("no parts below", new PlateCuts().bound(1), NO);
        PlateCuts y = from("s11;p771");
        due("1 / 49 above", y.bound(0), 1);
        due("1 / 49 below", y.bound(1), 49);
    }

    private static void see() {
        sentence("promise 21");
        PlateCuts x = from("p111");
        due("see(1, 0)", x.see(1, 0), NONE);
        due("see(-2, 0)", x.see(-2, 0), NONE);
        due("see(0, -1)", x.see(0, -1), BAD);
        due("see(0, 50)", x.see(0, 50), BAD);
        due("NONE ahead of BAD", x.see(1, 50), NONE);
        due("see(0, 0)", x.see(0, 0), 1);
        due("see(0, 49)", x.see(0, 49), 2);
        due("see(0, 1)", x.see(0, 1), 3);
        due("see(0, 1)", x.see(0, 1), 4);
        due("see(0, 1)", x.see(0, 1), 5);
        due("see(0, 1)", x.see(0, 1), FULL);
        due("BAD ahead of FULL", x.see(0, 50), BAD);
        due("count(0)", x.count(0), 5);
        due("see(-1, 999)", x.see(-1, 999), 0);
        due("count(0)", x.count(0), 0);
        due("see(0, 1)", x.see(0, 1), 1);
    }

    private static void fits() {
        sentence("promise 22");
        PlateCuts x = from("s21;p215;p119");
        // two of part 1 are worth more than part 0 from 3 on; at 1 and 2 part 0 is taken
        due("without anything seen all fit", x.fits(1, 0), 20);
        due("without anything seen all fit", x.fits(1, 1), 1);
        x.see(1, 2);
        due("fits(1, 0)", x.fits(1, 0), 18);
        due("fits(1, 1)", x.fits(1, 1), 3);
        due("of part 0 by 9 + 9", x.fits(0, 0), 17);
        due("fits(0, 1)", x.fits(0, 1), 1);
        x.see(0, 0);
        due("fits(1, 0)", x.fits(1, 0), 18);
        x.see(0, 1);
        due("two rows that differ", x.fits(1, 0), 0);
        due("none is the least", x.fits(1, 1), WITHOUT);
        x.see(-1, 0);
        x.see(0, 1);
        due("fits(1, 0)", x.fits(1, 0), 2);
        due("fits(1, 1)", x.fits(1, 1), 1);
        due("of part 0 from 18 on", x.fits(0, 0), 3);
        due("of part 0 from 18 on", x.fits(0, 1), 18);
        due("fits(2, 0)", x.fits(2, 0), NONE);
        due("fits(-1, 0)", x.fits(-1, 0), NONE);
        due("fits(0, 2)", x.fits(0, 2), NONE);
        due("fits(0, -1)", x.fits(0, -1), NONE);
        due("the worth stays", x.of(0, 2), 5);
        due("told(5)", x.told(5), 18);
    }

    private static void odds() {
        sentence("promise 23");
        PlateCuts x = from("s21;p215;p112");
        // part 0 against 2 + 2: used from 4 on; part 1 against 5: used from 3 on
        due("odds(0, 0)", x.odds(0, 0), 7);
        due("odds(0, 1)", x.odds(0, 1), 10);
        due("odds(1, 0)", x.odds(1, 0), 4);
        due("odds(1, 1)", x.odds(1, 1), 5);
        x.part(3, 1, 1, false);
        due("never above", x.odds(2, 0), 0);
        due("never below", x.odds(2, 1), 1);
        x.plate(1, 1);
        due("ever above", x.odds(1, 0), 1);
        due("ever below", x.odds(1, 1), 1);
        due("odds(3, 0)", x.odds(3, 0), NO);
        due("odds(-1, 0)", x.odds(-1, 0), NO);
        due("odds(0, 2)", x.odds(0, 2), NO);
        due("odds(0, -1)", x.odds(0, -1), NO);
        due("the worth stays", x.of(1, 2), 2);
    }

    private static void mean() {
        sentence("promise 24");
        PlateCuts x = from("s51;p214;p113");
        // five of part 1 are more than two of part 0 and one
        due("mean(0)", x.mean(0), 3);
        due("mean(1)", x.mean(1), 1);
        x.renew(0, 2, 9);
        due("9 + 9 + 3 by 3 above", x.mean(0), 7);
        due("below", x.mean(1), 1);
        x.renew(1, 2, 2);
        due("20 by 3 above", x.mean(0), 20);
        due("below", x.mean(1), 3);
        x.plate(2, 1);
        due("one part above", x.mean(0), 9);
        due("below", x.mean(1), 1);
        due("mean(2)", x.mean(2), NO);
        due("mean(-1)", x.mean(-1), NO);
        due("none is above", new PlateCuts().mean(0), NO);
        due("none is below", new PlateCuts().mean(1), NO);
    }

    private static void event() {
        sentence("promise 25");
        PlateCuts x = from("s32;p111");
        due("event(4, 0)", x.event(4, 0), NONE);
        due("event(-2, 0)", x.event(-2, 0), NONE);
        due("event(1, 30)", x.event(1, 30), NONE);
        due("event(1, 2)", x.event(1, 2), NONE);
        due("event(1, -1)", x.event(1, -1), NONE);
        due("event(1, -10)", x.event(1, -10), NONE);
        due("event(1, LEAST)", x.event(1, LEAST), NONE);
        due("event(1, MOST)", x.event(1, MOST), NONE);
        due("event(2, 1)", x.event(2, 1), NONE);
        due("event(2, -1)", x.event(2, -1), NONE);
        due("event(3, 1)", x.event(3, 1), NONE);
        due("event(0, 3)", x.event(0, 3), BAD);
        due("event(0, -1)", x.event(0, -1), BAD);
        due("event(0, 0)", x.event(0, 0), 1);
        due("event(0, 2)", x.event(0, 2), 2);
        due("event(1, 0)", x.event(1, 0), 3);
        due("event(1, 21)", x.event(1, 21), 4);
        due("event(1, 21)", x.event(1, 21), 5);
        due("event(2, 0)", x.event(2, 0), 6);
        due("event(3, 0)", x.event(3, 0), 7);
        due("event(3, 0)", x.event(3, 0), 8);
        due("event(3, 0)", x.event(3, 0), FULL);
        due("BAD ahead of FULL", x.event(0, 3), BAD);
        due("NONE ahead of FULL", x.event(1, 30), NONE);
        due("count(1)", x.count(1), 8);
        due("event(-1, 999)", x.event(-1, 999), 0);
        due("count(1)", x.count(1), 0);
        stands(x, 3, 2, 0, 1, 0);
    }

    private static void after() {
        sentence("promise 26");
        PlateCuts x = from("s32;p119");
        due("no events: best", x.after(0), 54);
        due("no events: wasted", x.after(1), 0);
        due("no events: cuts", x.after(2), 5);
        due("after(3)", x.after(3), NONE);
        due("after(-1)", x.after(-1), NONE);
        x.event(1, 0);
        x.event(1, 0);
        x.event(1, 10);
        x.event(1, 20);
        x.event(1, 1);
        due("four bad squares: best", x.after(0), 18);
        due("four bad squares: wasted", x.after(1), 4);
        x.event(3, 0);
        due("and worth 1", x.after(0), 2);
        x.event(0, 1);
        due("and a kerf of 1: the lower row can't be had without the upper one", x.after(0), 0);
        x.event(0, 0);
        due("and none any more", x.after(0), 2);
        stands(x, 3, 2, 0, 1, 0);
        due("told(5)", x.told(5), 54);
        x.plate(2, 2);
        due("a square that is not there counts nowhere", x.after(0), 1);
        due("wasted", x.after(1), 3);
        x.plate(7, 2);
        due("squares stay where they are", x.after(0), 10);

        PlateCuts turned = from("s12;p218;t213");
        due("after(0)", turned.after(0), 3);
        turned.event(2, 0);
        due("may be turned", turned.after(0), 8);
        turned.event(2, 0);
        turned.event(2, 0);
        due("and not, and again", turned.after(0), 8);
        turned.event(2, 1);
        turned.event(2, 0);
        due("not any more, neither of them", turned.after(0), 0);
        due("wasted", turned.after(1), 2);
        due("cuts", turned.after(2), 0);

        PlateCuts full = from("s41;p111;d00;d10;d20");
        full.event(1, 30);
        due("more than three", full.after(0), 0);
        full.event(-1, 0);
        due("after(0)", full.after(0), 1);
    }

    private static void book() {
        sentence("promise 27");
        PlateCuts x = from("p111");
        due("book(1, 0)", x.book(1, 0), NONE);
        due("book(-2, 0)", x.book(-2, 0), NONE);
        due("book(0, -1)", x.book(0, -1), BAD);
        due("book(0, 50)", x.book(0, 50), BAD);
        due("NONE ahead of BAD", x.book(1, 50), NONE);
        for (int i = 1; i <= 8; i++) {
            due("book(0, 49)", x.book(0, 49), i);
        }
        due("book(0, 0)", x.book(0, 0), FULL);
        due("BAD ahead of FULL", x.book(0, 50), BAD);
        due("count(2)", x.count(2), 8);
        due("count(0)", x.count(0), 0);
        due("book(-1, -7)", x.book(-1, -7), 0);
        due("count(2)", x.count(2), 0);
        due("book(0, 0)", x.book(0, 0), 1);
    }

    private static void looked() {
        sentence("promise 28");
        PlateCuts x = from("s31;p219;p112");
        due("empty", x.looked(), WITHOUT);
        x.book(0, 1);
        x.book(1, 1);
        due("as it is", x.looked(), WITHOUT);
        x.book(1, 2);
        x.book(0, 0);
        due("the first one", x.looked(), 2);
        x.renew(1, 2, 5);
        due("three of part 1", x.looked(), 0);
        x.book(-1, 0);
        x.book(0, 0);
        x.book(1, 3);
        due("looked()", x.looked(), WITHOUT);
    }

    private static void judge() {
        sentence("promise 29");
        PlateCuts x = from("s32;p314;p113;d00");
        // upright at 1: 1 by 2 with a bad square, cut level; 2 by 2: upright at 1, both cut level
        long[] told = {201, 301, 0, 101, 201, 301, 101, 101, 301, 101, 101};
        due("judge of a tape with nothing", x.judge(2, 0), 100);
        due("judge of a tape with nothing", x.judge(2, -1), 100);
        due("judge(6, 0)", x.judge(6, 0), NONE);
        due("judge(-1, 0)", x.judge(-1, 0), NONE);
        x.tape(2, 2, 60);
        due("a row of ints", x.judge(2, 0), CAST);
        due("CAST ahead of the place", x.judge(2, -1), CAST);
        x.tape(2, 4, 0);
        due("a row of booleans", x.judge(2, 0), CAST);
        x.tape(2, 3, told.length + 2);
        for (int i = 0; i < told.length; i++) {
            x.item(2, i + 2, told[i]);
        }
        due("judge(2, 2)", x.judge(2, 2), WITHOUT);
        due("judge(2, 0)", x.judge(2, 0), 0);
        due("below 0", x.judge(2, -1), 100);
        due("at the end", x.judge(2, told.length + 2), 100);
        due("beyond", x.judge(2, MOST), 100);
        due("far below", x.judge(2, LEAST), 100);
        x.item(2, 7, told[5] + (1L << 40));
        due("the first that is otherwise", x.judge(2, 2), 5);
        x.item(2, 4, told[2] + 1);
        due("the first that is otherwise", x.judge(2, 2), 2);
        x.tape(3, 3, 4);
        x.shift(2, 2, 3, 0, 2);
        x.item(3, 2, told[2]);
        x.item(3, 3, told[3]);
        due("it ends too early", x.judge(3, 0), 104);
        x.tape(4, 3, 0);
        due("an empty row", x.judge(4, 0), 100);

        PlateCuts y = from("s21;p113");
        y.tape(0, 3, 3);
        y.item(0, 0, 201);
        y.item(0, 1, 100);
        y.item(0, 2, 100);
        due("told by hand", y.judge(0, 0), WITHOUT);
        PlateCuts waste = new PlateCuts();
        waste.tape(0, 3, 1);
        due("waste is 0", waste.judge(0, 0), WITHOUT);
        waste.item(0, 0, -5);
        due("waste is not -5", waste.judge(0, 0), 0);
    }

    private static void image() {
        sentence("promise 30");
        PlateCuts x = from("s65;k1;p111;t239;d01");
        x.see(0, 3);
        x.event(0, 2);
        x.book(1, 2);
        due("image()", x.image(), 2);
        stands(x, 6, 5, 1, 2, 1);
        due("a later one instead", x.part(1, 1, 1, false), 2);
        due("image()", x.image(), 3);
        x.plate(1, 1);
        due("undo()", x.undo(), 3);
        stands(x, 6, 5, 1, 3, 1);
    }

    private static void undo() {
        sentence("promise 31");
        PlateCuts x = new PlateCuts();
        due("undo()", x.undo(), STATE);
        readAll(x, "s65;k1;p119;t237;d01");
        x.see(0, 9);
        x.event(1, 54);
        x.event(2, 0);
        x.book(1, 2);
        x.image();
        // a kerf of 1 leaves three strips of 1 with three of part 0 in each
        due("told(5)", x.told(5), 81);
        due("after(0)", x.after(0), 81);
        due("looked()", x.looked(), 0);
        due("fits(1, 1)", x.fits(1, 1), 1);
        x.plate(7, 7);
        x.kerf(0);
        x.renew(0, 0, 4);
        x.renew(1, 2, 50);
        x.turn(1, false);
        x.part(2, 2, 2, false);
        x.defect(3, 3);
        x.see(-1, 0);
        x.see(2, 1);
        x.event(-1, 0);
        x.event(0, 1);
        x.book(-1, 0);
        x.book(1, 0);
        due("told(5)", x.told(5), x.best(0, 0, 7, 7));
        x.tape(0, 0, 3);
        x.item(0, 1, 5);
        x.feed('s');
        due("undo()", x.undo(), 2);
        stands(x, 6, 5, 1, 2, 1);
        due("defect(0, 1)", x.defect(0, 1), STATE);
        due("of(0, 0)", x.of(0, 0), 1);
        due("of(1, 2)", x.of(1, 2), 7);
        due("of(1, 3)", x.of(1, 3), 1);
        due("count(0)", x.count(0), 1);
        due("count(1)", x.count(1), 2);
        due("count(2)", x.count(2), 1);
        due("told(5)", x.told(5), 81);
        due("after(0)", x.after(0), 81);
        due("looked()", x.looked(), 0);
        due("fits(1, 1)", x.fits(1, 1), 1);
        due("tapes stay", x.peek(0, 1), 5);
        due("the text stays", x.count(3), 1);
        x.renew(0, 2, 1);
        x.mend();
        due("once more", x.undo(), 2);
        due("of(0, 2)", x.of(0, 2), 9);
        due("told(4)", x.told(4), 1);
    }

    private static void count() {
        sentence("promise 32");
        PlateCuts x = from("p111");
        x.see(0, 1);
        x.event(0, 1);
        x.event(0, 1);
        x.book(0, 1);
        x.book(0, 1);
        x.book(0, 1);
        feedAll(x, "abcd");
        due("count(0)", x.count(0), 1);
        due("count(1)", x.count(1), 2);
        due("count(2)", x.count(2), 3);
        due("count(3)", x.count(3), 4);
        due("count(4)", x.count(4), BAD);
        due("count(-1)", x.count(-1), BAD);
    }

    private static void tape() {
        sentence("promise 33");
        PlateCuts x = new PlateCuts();
        for (int sort = 0; sort <= 4; sort++) {
            due("tape(5, " + sort + ", 60)", x.tape(5, sort, 60), 1);
            due("peek(5, 59)", x.peek(5, 59), 0);
            due("item(5, 59, 1)", x.item(5, 59, 1), 1);
            due("item(5, 60, 1)", x.item(5, 60, 1), PLACE);
        }
        due("all 0 again", x.tape(5, 4, 60), 1);
        due("peek(5, 59)", x.peek(5, 59), 0);
        x.item(5, 2, 1);
        due("tape(6, 0, 1)", x.tape(6, 0, 1), NONE);
        due("tape(-1, 0, 1)", x.tape(-1, 0, 1), NONE);
        due("NONE ahead of all", x.tape(6, 9, -9), NONE);
        due("tape(5, 5, 1)", x.tape(5, 5, 1), BAD);
        due("tape(5, -2, 1)", x.tape(5, -2, 1), BAD);
        due("tape(5, 5, -1)", x.tape(5, 5, -1), BAD);
        due("tape(5, 0, 61)", x.tape(5, 0, 61), BAD);
        due("tape(5, 0, -1)", x.tape(5, 0, -1), SIZE);
        due("tape(5, 0, LEAST)", x.tape(5, 0, LEAST), SIZE);
        due("as it was", x.peek(5, 2), 1);
        due("tape(5, -1, 61)", x.tape(5, -1, 61), 1);
        due("nothing", x.item(5, 0, 1), NOTHING);
        due("tape(5, -1, -1)", x.tape(5, -1, -1), 1);
        due("tape(5, 3, 0)", x.tape(5, 3, 0), 1);
        due("an empty row is not nothing", x.item(5, 0, 1), PLACE);
    }

    private static void item() {
        sentence("promise 34");
        PlateCuts x = new PlateCuts();
        long v = 0x123456789ABCDEF0L;
        long[] kept = {(byte) 0xF0, (short) 0xDEF0, (int) 0x9ABCDEF0L, v, 1};
        for (int sort = 0; sort <= 4; sort++) {
            x.tape(sort, sort, 2);
            due("item(" + sort + ", 1, v)", x.item(sort, 1, v), 1);
            due("peek(" + sort + ", 1)", x.peek(sort, 1), kept[sort]);
            due("peek(" + sort + ", 0)", x.peek(sort, 0), 0);
            due("PLACE", x.item(sort, 2, v), PLACE);
            due("PLACE", x.item(sort, -1, v), PLACE);
            due("PLACE", x.item(sort, MOST, v), PLACE);
        }
        x.item(0, 0, 128);
        due("a byte", x.peek(0, 0), -128);
        x.item(1, 0, 32768);
        due("a short", x.peek(1, 0), -32768);
        x.item(2, 0, 1L << 32);
        due("an int", x.peek(2, 0), 0);
        x.item(4, 0, 1L << 32);
        due("a boolean", x.peek(4, 0), 1);
        x.item(4, 0, 0);
        due("a boolean", x.peek(4, 0), 0);
        due("nothing there", x.item(5, 0, 1), NOTHING);
        due("NOTHING ahead of PLACE", x.item(5, -1, 1), NOTHING);
        due("item(6, 0, 1)", x.item(6, 0, 1), NONE);
        due("item(-1, 0, 1)", x.item(-1, 0, 1), NONE);
    }

    private static void peek() {
        sentence("promise 35");
        PlateCuts x = new PlateCuts();
        x.tape(0, 3, 3);
        x.item(0, 2, -7);
        due("peek(0, 2)", x.peek(0, 2), -7);
        due("peek(0, 3)", x.peek(0, 3), NO);
        due("peek(0, -1)", x.peek(0, -1), NO);
        due("peek(0, LEAST)", x.peek(0, LEAST), NO);
        due("peek(1, 0)", x.peek(1, 0), NO);
        due("peek(6, 0)", x.peek(6, 0), NO);
        due("peek(-1, 0)", x.peek(-1, 0), NO);
        x.tape(0, -1, 0);
        due("nothing there", x.peek(0, 2), NO);
        due("nothing there", x.peek(0, 0), NO);
    }

    private static void items(PlateCuts x, int tape, long... due) {
        for (int i = 0; i < due.length; i++) {
            due("peek(" + tape + ", " + i + ")", x.peek(tape, i), due[i]);
        }
    }

    private static void shift() {
        sentence("promise 36");
        PlateCuts x = new PlateCuts();
        x.tape(0, 2, 5);
        x.tape(1, 2, 3);
        for (int i = 0; i < 5; i++) {
            x.item(0, i, i + 1);
        }
        due("shift(0, 2, 1, 0, 3)", x.shift(0, 2, 1, 0, 3), 3);
        items(x, 1, 3, 4, 5);
        due("onto itself, up", x.shift(0, 0, 0, 1, 4), 4);
        items(x, 0, 1, 1, 2, 3, 4);
        due("onto itself, down", x.shift(0, 1, 0, 0, 4), 4);
        items(x, 0, 1, 2, 3, 4, 4);
        due("none at the end", x.shift(0, 5, 1, 3, 0), 0);
        due("none beyond the end", x.shift(0, 6, 1, 0, 0), PLACE);
        due("none beyond the other's end", x.shift(0, 0, 1, 4, 0), PLACE);
        due("beyond the end", x.shift(0, 3, 1, 0, 3), PLACE);
        due("beyond the other's end", x.shift(0, 0, 1, 1, 3), PLACE);
        due("n below 0", x.shift(0, 0, 1, 0, -1), PLACE);
        due("i below 0", x.shift(0, -1, 1, 0, 1), PLACE);
        due("j below 0", x.shift(0, 0, 1, -1, 1), PLACE);
        due("far beyond", x.shift(0, MOST, 1, 0, MOST), PLACE);
        due("far beyond", x.shift(0, 1, 1, 1, MOST), PLACE);
        due("far below", x.shift(0, LEAST, 1, LEAST, LEAST), PLACE);
        items(x, 0, 1, 2, 3, 4, 4);
        items(x, 1, 3, 4, 5);
        due("nothing to come from", x.shift(2, 0, 0, 0, 1), NOTHING);
        due("nothing to come to", x.shift(0, 0, 2, 0, 1), NOTHING);
        due("NOTHING ahead of PLACE", x.shift(0, -1, 2, 0, 1), NOTHING);
        x.tape(3, 3, 5);
        due("unlike sorts", x.shift(0, 0, 3, 0, 1), CAST);
        due("CAST ahead of PLACE", x.shift(0, 0, 3, 0, -1), CAST);
        due("shift(6, 0, 0, 0, 0)", x.shift(6, 0, 0, 0, 0), NONE);
        due("shift(0, 0, -1, 0, 0)", x.shift(0, 0, -1, 0, 0), NONE);
        due("NONE ahead of NOTHING", x.shift(2, 0, 6, 0, 0), NONE);
        x.tape(4, 0, 60);
        x.item(4, 59, 9);
        due("the longest", x.shift(4, 1, 4, 0, 59), 59);
        due("peek(4, 58)", x.peek(4, 58), 9);
    }
}
