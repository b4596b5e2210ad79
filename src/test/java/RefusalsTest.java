import java.util.function.ToLongFunction;

/**
 * "The first that a call's words name. What is answered so changes nothing": each call that is refused,
 * as an object stands in four ways, with the answer that is due and a look at all that it holds behind it.
 */
final class RefusalsTest extends Sentences {
    private static final int[] FAR = {LEAST, MOST};
    private static final int[] NO_TAPES = {-1, 6, LEAST, MOST};

    private static Standing standing = Standing.NEW;
    private static int parts;
    private static int wide;
    private static int high;

    public static void main(String[] args) {
        begin("RefusalsTest");
        for (Standing one : Standing.values()) {
            stand(one);
            plateAndKerf();
            part();
            partNumbers();
            renewed();
            defects();
            text();
            pieces();
            asked();
            lines();
            toldByHand();
            events();
            tapes();
            places();
            shifts();
        }
        whereNothingIs();
        whereThereIsOne();
        whereAllIsFull();
        wholeTexts();
        finish();
    }

    private static void stand(Standing one) {
        standing = one;
        PlateCuts x = one.made().get();
        wide = x.told(0);
        high = x.told(1);
        parts = x.told(3);
    }

    private static void refused(String call, long want, ToLongFunction<PlateCuts> does) {
        due(standing + ": " + call, does.applyAsLong(standing.made().get()), want);
        String difference = Looks.difference(standing.made(), does::applyAsLong, y -> { });
        holds(standing + ": " + call + " changes nothing, but " + difference, difference.isEmpty());
    }

    /** Numbers that no part has. */
    private static int[] noParts() {
        return new int[] {-2, parts, 5, LEAST, MOST};
    }

    private static void plateAndKerf() {
        sentence("plate: BAD; kerf: BAD");
        int[][] plates = {{0, 3}, {8, 3}, {3, 0}, {3, 8}, {0, 0}, {8, 8}, {-1, 3}, {3, -1}, {LEAST, 3}, {3, MOST}};
        for (int[] p : plates) {
            refused("plate(" + p[0] + ", " + p[1] + ")", BAD, x -> x.plate(p[0], p[1]));
        }
        for (int kerf : new int[] {-1, 3, LEAST, MOST}) {
            refused("kerf(" + kerf + ")", BAD, x -> x.kerf(kerf));
        }
    }

    private static void part() {
        sentence("part: BAD: wide, high, worth; FULL: 5 - in this order");
        int[][] bad = {{0, 1, 1}, {8, 1, 1}, {1, 0, 1}, {1, 8, 1}, {1, 1, 0}, {1, 1, 100}, {0, 0, 0}, {MOST, 1, 1},
            {1, LEAST, 1}, {1, 1, MOST}};
        for (int[] p : bad) {
            refused("part(" + p[0] + ", " + p[1] + ", " + p[2] + ", true)", BAD, x -> x.part(p[0], p[1], p[2], true));
        }
        if (parts == 5) {
            refused("part(1, 1, 99, true)", FULL, x -> x.part(1, 1, 99, true));
        }
    }

    private static void partNumbers() {
        sentence("turn, of, fits, odds: no such part");
        for (int part : new int[] {-1, parts, 5, LEAST, MOST}) {
            refused("turn(" + part + ", true)", NONE, x -> x.turn(part, true));
            refused("turn(" + part + ", false)", NONE, x -> x.turn(part, false));
            refused("of(" + part + ", 0)", NONE, x -> x.of(part, 0));
            refused("of(" + part + ", 4)", NONE, x -> x.of(part, 4));
            refused("of(" + part + ", 5)", NONE, x -> x.of(part, 5));
            refused("fits(" + part + ", 0)", NONE, x -> x.fits(part, 0));
            refused("fits(" + part + ", 2)", NONE, x -> x.fits(part, 2));
            refused("odds(" + part + ", 0)", NO, x -> x.odds(part, 0));
            refused("odds(" + part + ", 2)", NO, x -> x.odds(part, 2));
        }
        for (int what : new int[] {-1, 5, LEAST, MOST}) {
            refused("of(0, " + what + ")", NONE, x -> x.of(0, what));
        }
        for (int two : new int[] {-1, 2, LEAST, MOST}) {
            refused("fits(0, " + two + ")", NONE, x -> x.fits(0, two));
            refused("odds(0, " + two + ")", NO, x -> x.odds(0, two));
        }
    }

    private static void renewed() {
        sentence("renew: NONE: part, what; BAD: v - in this order");
        for (int part : new int[] {-1, parts, 5, LEAST, MOST}) {
            refused("renew(" + part + ", 0, 1)", NONE, x -> x.renew(part, 0, 1));
            refused("renew(" + part + ", 0, 8)", NONE, x -> x.renew(part, 0, 8));
            refused("renew(" + part + ", 2, 0)", NONE, x -> x.renew(part, 2, 0));
            refused("renew(" + part + ", 3, 1)", NONE, x -> x.renew(part, 3, 1));
        }
        for (int what : new int[] {-1, 3, 4, LEAST, MOST}) {
            refused("renew(0, " + what + ", 1)", NONE, x -> x.renew(0, what, 1));
            refused("renew(0, " + what + ", 100)", NONE, x -> x.renew(0, what, 100));
        }
        if (parts > 0) {
            int[][] bad = {{0, 0}, {0, 8}, {1, 0}, {1, 8}, {2, 0}, {2, 100}, {0, LEAST}, {1, MOST}, {2, LEAST}, {2, MOST}};
            for (int[] b : bad) {
                refused("renew(0, " + b[0] + ", " + b[1] + ")", BAD, x -> x.renew(0, b[0], b[1]));
                refused("renew(last, " + b[0] + ", " + b[1] + ")", BAD, x -> x.renew(parts - 1, b[0], b[1]));
            }
        }
    }

    private static void defects() {
        sentence("defect, picture: NONE: x, y");
        int[][] none = {{-1, 0}, {0, -1}, {wide, 0}, {0, high}, {wide, high}, {7, 0}, {0, 7}, {LEAST, 0}, {0, MOST}};
        for (int[] n : none) {
            refused("defect(" + n[0] + ", " + n[1] + ")", NONE, x -> x.defect(n[0], n[1]));
            refused("picture(" + n[0] + ", " + n[1] + ")", NONE, x -> x.picture(n[0], n[1]));
        }
    }

    private static void text() {
        sentence("feed: BAD; FULL - in this order");
        for (int sign : new int[] {-1, 128, 256 + 's', LEAST, MOST}) {
            refused("feed(" + sign + ")", BAD, x -> x.feed(sign));
        }
        if (standing == Standing.ALL_FULL) {
            refused("feed(0)", FULL, x -> x.feed(0));
            refused("feed('s')", FULL, x -> x.feed('s'));
        }
    }

    private static void pieces() {
        sentence("best, is: NONE: there is no such PIECE");
        int[][] none = {{-1, 0, 1, 1}, {0, -1, 1, 1}, {0, 0, 0, 1}, {0, 0, 1, 0}, {0, 0, wide + 1, 1}, {0, 0, 1, high + 1},
            {1, 0, wide, 1}, {0, 1, 1, high}, {wide, 0, 1, 1}, {0, high, 1, 1}, {MOST, 0, 1, 1}, {0, 0, 1, MOST},
            {1, 1, MOST, MOST}, {LEAST, LEAST, LEAST, LEAST}};
        for (int[] n : none) {
            String of = "(" + n[0] + ", " + n[1] + ", " + n[2] + ", " + n[3] + ")";
            refused("best" + of, NONE, x -> x.best(n[0], n[1], n[2], n[3]));
            refused("is" + of, NONE, x -> x.is(n[0], n[1], n[2], n[3]));
        }
    }

    private static void asked() {
        sentence("told, node, after: NONE; staged, count: BAD");
        int nodes = standing.made().get().told(6);
        for (int what : new int[] {-1, 11, LEAST, MOST}) {
            refused("told(" + what + ")", NONE, x -> x.told(what));
        }
        for (int what : new int[] {-1, 8, LEAST, MOST}) {
            refused("node(0, " + what + ")", NONE, x -> x.node(0, what));
        }
        for (int node : new int[] {-1, nodes, 97, LEAST, MOST}) {
            refused("node(" + node + ", 0)", NONE, x -> x.node(node, 0));
            refused("node(" + node + ", 8)", NONE, x -> x.node(node, 8));
        }
        for (int stages : new int[] {-1, 0, 4, LEAST, MOST}) {
            refused("staged(" + stages + ", 0)", BAD, x -> x.staged(stages, 0));
            refused("staged(" + stages + ", 2)", BAD, x -> x.staged(stages, 2));
        }
        for (int way : new int[] {-1, 2, LEAST, MOST}) {
            refused("staged(1, " + way + ")", BAD, x -> x.staged(1, way));
        }
        for (int what : new int[] {-1, 3, LEAST, MOST}) {
            refused("after(" + what + ")", NONE, x -> x.after(what));
        }
        for (int what : new int[] {-1, 4, LEAST, MOST}) {
            refused("count(" + what + ")", BAD, x -> x.count(what));
        }
    }

    private static void lines() {
        sentence("sizes: NONE: side; more, bound, mean: NO");
        for (int two : new int[] {-1, 2, LEAST, MOST}) {
            refused("sizes(" + two + ")", NONE, x -> x.sizes(two));
            refused("more(" + two + ")", NO, x -> x.more(two));
            refused("bound(" + two + ")", NO, x -> x.bound(two));
            refused("mean(" + two + ")", NO, x -> x.mean(two));
        }
    }

    private static void toldByHand() {
        sentence("see, book: NONE: part; BAD: n; FULL - in this order");
        for (int part : noParts()) {
            for (int n : new int[] {0, 49, -1, 50, LEAST, MOST}) {
                refused("see(" + part + ", " + n + ")", NONE, x -> x.see(part, n));
                refused("book(" + part + ", " + n + ")", NONE, x -> x.book(part, n));
            }
        }
        if (parts > 0) {
            for (int n : new int[] {-1, 50, LEAST, MOST}) {
                refused("see(0, " + n + ")", BAD, x -> x.see(0, n));
                refused("book(0, " + n + ")", BAD, x -> x.book(0, n));
            }
        }
        if (standing == Standing.ALL_FULL) {
            refused("see(0, 0)", FULL, x -> x.see(0, 0));
            refused("see(4, 49)", FULL, x -> x.see(4, 49));
            refused("book(0, 0)", FULL, x -> x.book(0, 0));
            refused("book(4, 49)", FULL, x -> x.book(4, 49));
        }
    }

    private static void events() {
        sentence("event: NONE: what, square, PART n; BAD: KERF n; FULL: 8 - in this order");
        for (int what : new int[] {-2, 4, LEAST, MOST}) {
            refused("event(" + what + ", 0)", NONE, x -> x.event(what, 0));
            refused("event(" + what + ", -1)", NONE, x -> x.event(what, -1));
            refused("event(" + what + ", 3)", NONE, x -> x.event(what, 3));
        }
        for (int square : new int[] {-1, -10, 10 * wide, high, 7, 9, 70, 77, LEAST, MOST}) {
            refused("event(1, " + square + ")", NONE, x -> x.event(1, square));
        }
        for (int part : new int[] {-1, parts, 5, LEAST, MOST}) {
            refused("event(2, " + part + ")", NONE, x -> x.event(2, part));
            refused("event(3, " + part + ")", NONE, x -> x.event(3, part));
        }
        for (int kerf : new int[] {-1, 3, LEAST, MOST}) {
            refused("event(0, " + kerf + ")", BAD, x -> x.event(0, kerf));
        }
        if (standing == Standing.ALL_FULL) {
            refused("event(0, 0)", FULL, x -> x.event(0, 0));
            refused("event(1, 11)", FULL, x -> x.event(1, 11));
            refused("event(2, 4)", FULL, x -> x.event(2, 4));
            refused("event(3, 2)", FULL, x -> x.event(3, 2));
        }
    }

    private static void tapes() {
        sentence("tape: NONE: tape; BAD: sort, n above 60; SIZE - in this order");
        for (int tape : NO_TAPES) {
            refused("tape(" + tape + ", 0, 1)", NONE, x -> x.tape(tape, 0, 1));
            refused("tape(" + tape + ", -1, 0)", NONE, x -> x.tape(tape, -1, 0));
            refused("tape(" + tape + ", 5, 61)", NONE, x -> x.tape(tape, 5, 61));
            refused("tape(" + tape + ", 0, -1)", NONE, x -> x.tape(tape, 0, -1));
        }
        for (int tape = 0; tape <= 5; tape++) {
            int one = tape;
            for (int sort : new int[] {-2, 5, LEAST, MOST}) {
                refused("tape(" + one + ", " + sort + ", 1)", BAD, x -> x.tape(one, sort, 1));
                refused("tape(" + one + ", " + sort + ", -1)", BAD, x -> x.tape(one, sort, -1));
                refused("tape(" + one + ", " + sort + ", 61)", BAD, x -> x.tape(one, sort, 61));
            }
            refused("tape(" + one + ", 3, 61)", BAD, x -> x.tape(one, 3, 61));
            refused("tape(" + one + ", 0, MOST)", BAD, x -> x.tape(one, 0, MOST));
            refused("tape(" + one + ", 2, -1)", SIZE, x -> x.tape(one, 2, -1));
            refused("tape(" + one + ", 4, LEAST)", SIZE, x -> x.tape(one, 4, LEAST));
        }
    }

    private static void places() {
        sentence("item: NONE; NOTHING; PLACE - in this order; peek: NO; judge: NONE; CAST");
        for (int tape : NO_TAPES) {
            refused("item(" + tape + ", 0, 1)", NONE, x -> x.item(tape, 0, 1));
            refused("item(" + tape + ", -1, 1)", NONE, x -> x.item(tape, -1, 1));
            refused("peek(" + tape + ", 0)", NO, x -> x.peek(tape, 0));
            refused("judge(" + tape + ", 0)", NONE, x -> x.judge(tape, 0));
            refused("judge(" + tape + ", -1)", NONE, x -> x.judge(tape, -1));
        }
        PlateCuts here = standing.made().get();
        for (int tape = 0; tape <= 5; tape++) {
            int one = tape;
            boolean nothing = here.item(one, -1, 1) == NOTHING;
            for (int i : new int[] {-1, 60, LEAST, MOST}) {
                refused("item(" + one + ", " + i + ", 1)", nothing ? NOTHING : PLACE, x -> x.item(one, i, 1));
                refused("peek(" + one + ", " + i + ")", NO, x -> x.peek(one, i));
                boolean cast = here.judge(one, 0) == CAST;
                refused("judge(" + one + ", " + i + ")", cast ? CAST : 100, x -> x.judge(one, i));
            }
        }
    }

    private static void shifts() {
        sentence("shift: NONE: tapes; NOTHING; CAST: of unlike sorts; PLACE - in this order");
        for (int tape : NO_TAPES) {
            refused("shift(" + tape + ", 0, 0, 0, 0)", NONE, x -> x.shift(tape, 0, 0, 0, 0));
            refused("shift(0, -1, " + tape + ", 0, 1)", NONE, x -> x.shift(0, -1, tape, 0, 1));
        }
    }

    private static void whereNothingIs() {
        stand(Standing.NEW);
        sentence("undo: STATE: there is none; bound, mean: NO: there are none");
        refused("undo()", STATE, PlateCuts::undo);
        refused("bound(0)", NO, x -> x.bound(0));
        refused("bound(1)", NO, x -> x.bound(1));
        refused("mean(0)", NO, x -> x.mean(0));
        refused("mean(1)", NO, x -> x.mean(1));
        sentence("shift, item: NOTHING: nothing is there");
        refused("item(0, 0, 1)", NOTHING, x -> x.item(0, 0, 1));
        refused("shift(0, 0, 0, 0, 0)", NOTHING, x -> x.shift(0, 0, 0, 0, 0));
        refused("shift(0, -1, 5, 0, -1)", NOTHING, x -> x.shift(0, -1, 5, 0, -1));
        stand(Standing.HALF);
        refused("shift(0, 0, 5, 0, 1)", NOTHING, x -> x.shift(0, 0, 5, 0, 1));
        refused("shift(5, 0, 0, 0, 1)", NOTHING, x -> x.shift(5, 0, 0, 0, 1));
        refused("shift(5, -1, 0, 9, -1)", NOTHING, x -> x.shift(5, -1, 0, 9, -1));
        sentence("shift: CAST, PLACE");
        refused("shift(0, 0, 1, 0, 1)", CAST, x -> x.shift(0, 0, 1, 0, 1));
        refused("shift(3, 0, 4, 0, 0)", CAST, x -> x.shift(3, 0, 4, 0, 0));
        refused("shift(1, -1, 0, 9, -1)", CAST, x -> x.shift(1, -1, 0, 9, -1));
        int[][] places = {{0, 0, 5}, {1, 0, 4}, {0, 1, 4}, {4, 0, 1}, {0, 4, 1}, {-1, 0, 1}, {0, -1, 1}, {0, 0, -1},
            {5, 0, 0}, {0, 5, 0}, {MOST, 0, 1}, {0, MOST, 1}, {1, 0, MOST}, {0, 1, MOST}, {LEAST, 0, 0}, {0, 0, LEAST}};
        for (int[] p : places) {
            refused("shift(0, " + p[0] + ", 0, " + p[1] + ", " + p[2] + ")", PLACE, x -> x.shift(0, p[0], 0, p[1], p[2]));
        }
    }

    private static void whereThereIsOne() {
        stand(Standing.HALF);
        sentence("defect: STATE: it is one");
        refused("defect(1, 1)", STATE, x -> x.defect(1, 1));
        refused("defect(4, 2)", STATE, x -> x.defect(4, 2));
        sentence("more: NO: THE PLATE has 7 there");
        String difference = Looks.difference(standing.made(), x -> x.plate(7, 1), x -> {
            x.plate(7, 1);
            due("more(0)", x.more(0), NO);
        });
        holds("more(0) changes nothing, but " + difference, difference.isEmpty());
        difference = Looks.difference(standing.made(), x -> x.plate(1, 7), x -> {
            x.plate(1, 7);
            due("more(1)", x.more(1), NO);
        });
        holds("more(1) changes nothing, but " + difference, difference.isEmpty());
    }

    private static void whereAllIsFull() {
        stand(Standing.ALL_FULL);
        sentence("defect: NONE: x, y; STATE: it is one; FULL: 3 - in this order");
        refused("defect(0, 0)", STATE, x -> x.defect(0, 0));
        refused("defect(2, 1)", STATE, x -> x.defect(2, 1));
        refused("defect(2, 2)", FULL, x -> x.defect(2, 2));
        refused("defect(3, 0)", NONE, x -> x.defect(3, 0));
        refused("defect(0, 3)", NONE, x -> x.defect(0, 3));
    }

    /** The text is empty before and behind it: all that a faulty or a refused one may do. */
    private static void wholeTexts() {
        for (Standing one : new Standing[] {Standing.NEW, Standing.HALF}) {
            stand(one);
            sentence("read: by a FAULT nothing is done, and THE TEXT is empty");
            String[] faulty = {"", "x", "s77;", "s77;x", "k2;p111;d0", "p221;k2;s333", "d11;s22;;", "t11999"};
            int[] faults = {0, 0, 4, 4, 10, 11, 8, 5};
            for (int i = 0; i < faulty.length; i++) {
                String signs = faulty[i];
                refused("read() of " + signs, -10 - faults[i], x -> readAll(x, signs));
            }
            sentence("read: CLAUSES that would be refused aren't done");
            for (String signs : new String[] {"s07", "s80", "k3;k9", "p081;t180;p110;t2200", "d99;d70", "s00;k5;p000;d07"}) {
                refused("read() of " + signs, 0, x -> readAll(x, signs));
            }
        }
        sentence("read: a DEFECT that is one isn't done; of FULL ones none is");
        refused("read() of d11;d42", 0, x -> readAll(x, "d11;d42"));
        for (int far : FAR) {
            refused("feed(" + far + "), and read()", -10, x -> Math.max(x.feed(far), 0) + x.read());
        }
    }
}
