import java.util.Random;

/** Random runs of calls, good and wrong ones, on the program and on the model: all answers are alike. */
final class ModelTest {
    private static final int RUNS = 5000;
    /** No step begins behind so many calls, so that the longest one and the last look stay within 512. */
    private static final int CALLS_OF_STEPS = 150;
    private static final int NODES_LOOKED_AT = 20;

    private final Check check;
    private final Random random;
    private final PlateCuts program = new PlateCuts();
    private final Model model = new Model();
    private String run;
    private int calls;

    private ModelTest(Check check, long seed) {
        this.check = check;
        this.random = new Random(seed);
        this.run = "run " + seed + ":";
    }

    public static void main(String[] args) {
        Check check = new Check("ModelTest");
        for (int seed = 0; seed < RUNS && check.wrong() == 0; seed++) {
            ModelTest test = new ModelTest(check, seed);
            while (test.calls < CALLS_OF_STEPS && check.wrong() == 0) {
                test.step();
            }
            test.lookAtAll();
        }
        check.finish();
    }

    private void same(String call, long got, long want) {
        run += " " + call;
        calls++;
        if (got != want) {
            check.due(run, got, want);
        } else {
            check.due(call, got, want);
        }
    }

    /** Mostly from least to most, at times beyond, at times far beyond. */
    private int near(int least, int most) {
        int chance = random.nextInt(40);
        if (chance == 0) {
            return most + 1;
        }
        if (chance == 1) {
            return least - 1;
        }
        if (chance == 2) {
            int[] far = {Integer.MIN_VALUE, Integer.MAX_VALUE, Integer.MAX_VALUE - 6, -11, 1000, 256};
            return far[random.nextInt(far.length)];
        }
        return least + random.nextInt(most - least + 1);
    }

    private int part() {
        return near(0, Math.max(0, model.told(3) - 1));
    }

    private void step() {
        switch (random.nextInt(12)) {
            case 0, 1, 2 -> change();
            case 3 -> tellByHand();
            case 4 -> tapes();
            case 5 -> readText();
            case 6 -> judgeTrueCuts();
            case 7 -> heavy();
            default -> ask();
        }
    }

    private void change() {
        int a = near(1, 7);
        int b = near(1, 7);
        int p = part();
        boolean t = random.nextBoolean();
        switch (random.nextInt(13)) {
            case 0, 1 -> same("plate(" + a + "," + b + ")", program.plate(a, b), model.plate(a, b));
            case 2 -> {
                int k = near(0, 2);
                same("kerf(" + k + ")", program.kerf(k), model.kerf(k));
            }
            case 3, 4, 5 -> {
                int w = random.nextInt(3) == 0 ? near(1, 99) : near(1, 12);
                int c = random.nextBoolean() ? near(1, 3) : a;
                int d = random.nextBoolean() ? near(1, 3) : b;
                same("part(" + c + "," + d + "," + w + "," + t + ")", program.part(c, d, w, t), model.part(c, d, w, t));
            }
            case 6, 7 -> {
                int what = near(0, 2);
                int v = what == 2 ? near(1, 99) : near(1, 7);
                same("renew(" + p + "," + what + "," + v + ")", program.renew(p, what, v), model.renew(p, what, v));
            }
            case 8 -> same("turn(" + p + "," + t + ")", program.turn(p, t), model.turn(p, t));
            case 9, 10 -> {
                int x = near(0, model.told(0) - 1);
                int y = near(0, model.told(1) - 1);
                same("defect(" + x + "," + y + ")", program.defect(x, y), model.defect(x, y));
            }
            case 11 -> {
                if (random.nextInt(3) == 0) {
                    same("mend()", program.mend(), model.mend());
                } else {
                    same("image()", program.image(), model.image());
                }
            }
            default -> same("undo()", program.undo(), model.undo());
        }
    }

    private void tellByHand() {
        int p = random.nextInt(12) == 0 ? -1 : part();
        int n = near(0, random.nextBoolean() ? 3 : 49);
        if (random.nextBoolean() && p >= 0 && p < model.told(3)) {
            n = model.of(p, 4);
        }
        switch (random.nextInt(3)) {
            case 0 -> same("see(" + p + "," + n + ")", program.see(p, n), model.see(p, n));
            case 1 -> same("book(" + p + "," + n + ")", program.book(p, n), model.book(p, n));
            default -> {
                int what = random.nextInt(12) == 0 ? -1 : near(0, 3);
                int m = what == 1 ? 10 * near(0, 6) + near(0, 6) : near(0, 4);
                same("event(" + what + "," + m + ")", program.event(what, m), model.event(what, m));
            }
        }
    }

    private void tapes() {
        int a = near(0, 5);
        int b = random.nextInt(3) == 0 ? a : near(0, 5);
        int i = near(0, 8);
        int j = near(0, 8);
        int n = near(0, 8);
        switch (random.nextInt(6)) {
            case 0, 1 -> {
                int sort = random.nextBoolean() ? random.nextInt(2) + 2 : near(-1, 4);
                int size = random.nextBoolean() ? near(0, 60) : near(4, 12);
                same("tape(" + a + "," + sort + "," + size + ")", program.tape(a, sort, size), model.tape(a, sort, size));
            }
            case 2, 3 -> {
                long v = random.nextBoolean() ? random.nextLong() : near(0, 310);
                same("item(" + a + "," + i + "," + v + "L)", program.item(a, i, v), model.item(a, i, v));
            }
            case 4 -> same("peek(" + a + "," + i + ")", program.peek(a, i), model.peek(a, i));
            default -> {
                same("shift(" + a + "," + i + "," + b + "," + j + "," + n + ")",
                    program.shift(a, i, b, j, n), model.shift(a, i, b, j, n));
                for (int at = 0; at < 16; at++) {
                    same("peek(" + b + "," + at + ")", program.peek(b, at), model.peek(b, at));
                }
            }
        }
    }

    private String digits(int n) {
        StringBuilder all = new StringBuilder();
        for (int i = 0; i < n; i++) {
            all.append((char) ('0' + random.nextInt(random.nextInt(6) == 0 ? 10 : 6)));
        }
        return all.toString();
    }

    private String clause() {
        return switch (random.nextInt(8)) {
            case 0 -> "s" + digits(2);
            case 1 -> "k" + random.nextInt(4);
            case 2, 3 -> "p" + digits(2 + 1 + random.nextInt(2));
            case 4, 5 -> "t" + digits(2 + 1 + random.nextInt(2));
            default -> "d" + digits(2);
        };
    }

    private void readText() {
        StringBuilder all = new StringBuilder();
        int clauses = random.nextInt(6) == 0 ? 10 + random.nextInt(5) : random.nextInt(5);
        for (int i = 0; i < clauses; i++) {
            all.append(i == 0 ? "" : ";").append(clause());
        }
        if (random.nextInt(4) == 0 && all.length() > 0) {
            all.setCharAt(random.nextInt(all.length()), "spktd;0 9\u0000\u007f".charAt(random.nextInt(11)));
        }
        if (random.nextInt(5) == 0) {
            all.setLength(random.nextInt(all.length() + 1));
        }
        if (random.nextInt(5) == 0) {
            all.append("spktd;09".charAt(random.nextInt(8)));
        }
        for (int i = 0; i < all.length(); i++) {
            int sign = all.charAt(i);
            same("feed(" + sign + ")", program.feed(sign), model.feed(sign));
        }
        if (random.nextInt(3) == 0) {
            int sign = near(0, 127);
            same("feed(" + sign + ")", program.feed(sign), model.feed(sign));
        }
        if (random.nextInt(8) != 0) {
            same("read()", program.read(), model.read());
        }
    }

    private void judgeTrueCuts() {
        int tape = random.nextInt(6);
        int at = random.nextInt(4);
        long[] cuts = model.telling();
        int size = Math.min(60, Math.max(0, at + cuts.length + random.nextInt(4) - 2));
        same("tape(" + tape + ",3," + size + ")", program.tape(tape, 3, size), model.tape(tape, 3, size));
        int spoilt = random.nextInt(2 * cuts.length);
        for (int i = 0; i < cuts.length; i++) {
            long v = i == spoilt ? cuts[i] + (random.nextBoolean() ? 1 : 1L << 32) : cuts[i];
            same("item(" + tape + "," + (at + i) + "," + v + "L)", program.item(tape, at + i, v), model.item(tape, at + i, v));
        }
        int from = random.nextInt(6) == 0 ? near(0, 60) : at;
        same("judge(" + tape + "," + from + ")", program.judge(tape, from), model.judge(tape, from));
    }

    private void heavy() {
        int p = part();
        int w = near(0, 1);
        switch (random.nextInt(4)) {
            case 0 -> same("fits(" + p + "," + w + ")", program.fits(p, w), model.fits(p, w));
            case 1 -> same("odds(" + p + "," + w + ")", program.odds(p, w), model.odds(p, w));
            case 2 -> {
                int s = near(1, 3);
                same("staged(" + s + "," + w + ")", program.staged(s, w), model.staged(s, w));
            }
            default -> {
                int what = near(0, 2);
                same("after(" + what + ")", program.after(what), model.after(what));
            }
        }
    }

    private void ask() {
        int x = near(0, model.told(0) - 1);
        int y = near(0, model.told(1) - 1);
        int wide = near(1, 7);
        int high = near(1, 7);
        int w = near(0, 1);
        switch (random.nextInt(13)) {
            case 0 -> same("best(" + x + "," + y + "," + wide + "," + high + ")",
                program.best(x, y, wide, high), model.best(x, y, wide, high));
            case 1 -> same("is(" + x + "," + y + "," + wide + "," + high + ")",
                program.is(x, y, wide, high), model.is(x, y, wide, high));
            case 2 -> {
                int what = near(0, 10);
                same("told(" + what + ")", program.told(what), model.told(what));
            }
            case 3 -> {
                int node = near(0, model.told(6) - 1);
                int what = near(0, 7);
                same("node(" + node + "," + what + ")", program.node(node, what), model.node(node, what));
            }
            case 4 -> same("picture(" + x + "," + y + ")", program.picture(x, y), model.picture(x, y));
            case 5 -> same("sizes(" + w + ")", program.sizes(w), model.sizes(w));
            case 6 -> same("more(" + w + ")", program.more(w), model.more(w));
            case 7 -> same("bound(" + w + ")", program.bound(w), model.bound(w));
            case 8 -> same("mean(" + w + ")", program.mean(w), model.mean(w));
            case 9 -> same("looked()", program.looked(), model.looked());
            case 10 -> {
                int what = near(0, 3);
                same("count(" + what + ")", program.count(what), model.count(what));
            }
            case 11 -> {
                int tape = near(0, 5);
                int i = near(0, 10);
                same("judge(" + tape + "," + i + ")", program.judge(tape, i), model.judge(tape, i));
            }
            default -> {
                int p = part();
                int what = near(0, 4);
                same("of(" + p + "," + what + ")", program.of(p, what), model.of(p, what));
            }
        }
    }

    /** The whole of the cuts, with its picture. */
    private void lookAtAll() {
        for (int what = 0; what <= 10; what++) {
            same("told(" + what + ")", program.told(what), model.told(what));
        }
        int nodes = model.told(6);
        for (int node = 0; node <= nodes && node < NODES_LOOKED_AT; node++) {
            for (int what = 0; what <= 7; what++) {
                same("node(" + node + "," + what + ")", program.node(node, what), model.node(node, what));
            }
        }
        for (int x = 0; x < model.told(0); x++) {
            for (int y = 0; y < model.told(1); y++) {
                same("picture(" + x + "," + y + ")", program.picture(x, y), model.picture(x, y));
            }
        }
    }
}
