import java.util.function.Supplier;

/** How an object stands before something is tried on it; none takes more than Looks.MOST_CALLS_AHEAD calls. */
enum Standing {
    NEW(PlateCuts::new),
    /** Some of everything, an image of something else, and no text. */
    HALF(Standing::half),
    /** The same, with a text that is a set-up. */
    TOLD(() -> fed(half(), "k2;s24;p115;t124;d01")),
    /** No room for anything more. */
    ALL_FULL(Standing::allFull);

    private final Supplier<PlateCuts> made;

    Standing(Supplier<PlateCuts> made) {
        this.made = made;
    }

    Supplier<PlateCuts> made() {
        return made;
    }

    private static PlateCuts fed(PlateCuts x, String signs) {
        for (int i = 0; i < signs.length(); i++) {
            x.feed(signs.charAt(i));
        }
        return x;
    }

    private static PlateCuts half() {
        PlateCuts x = fed(new PlateCuts(), "s43;k1;p125;t319;d20");
        x.read();
        x.see(1, 1);
        x.see(0, 2);
        x.event(0, 0);
        x.event(1, 31);
        x.book(0, x.of(0, 4));
        x.image();
        x.plate(5, 3);
        x.defect(1, 1);
        x.defect(4, 2);
        x.kerf(0);
        x.renew(0, 2, 7);
        x.part(1, 1, 2, false);
        x.turn(1, false);
        x.see(-1, 0);
        x.see(0, x.of(0, 4));
        x.see(1, x.of(1, 4));
        x.event(3, 1);
        x.event(2, 0);
        x.book(-1, 0);
        x.book(0, x.of(0, 4));
        x.book(1, x.of(1, 4));
        x.book(2, x.of(2, 4));
        x.tape(0, 3, 4);
        for (int node = 0; node < 4; node++) {
            int kind = x.node(node, 0);
            x.item(0, node, kind == 0 ? 0 : 100L * kind + x.node(node, 5));
        }
        x.tape(1, 0, 3);
        x.item(1, 1, 77);
        x.tape(2, 1, 2);
        x.item(2, 1, -5);
        x.tape(3, 2, 2);
        x.item(3, 0, 1 << 30);
        x.tape(4, 4, 3);
        x.item(4, 2, 1);
        return x;
    }

    private static PlateCuts allFull() {
        PlateCuts x = fed(new PlateCuts(), "s33;p117;t128;p221;t315;p134;d00;d12");
        x.read();
        x.image();
        x.defect(2, 1);
        for (int i = 0; i < 5; i++) {
            x.see(i, x.of(i, 4));
        }
        for (int i = 0; i < 8; i++) {
            x.event(i % 4, i == 5 ? 22 : i % 3);
            x.book(i % 5, x.of(i % 5, 4));
        }
        fed(x, "k2;s22;p111;k1;k1;k1;k1;k1;k1;k1;k1;k1");
        for (int bytes = x.count(3); bytes < 100; bytes++) {
            x.feed(' ');
        }
        x.tape(0, 3, 60);
        x.item(0, 59, -1);
        x.tape(1, 0, 60);
        x.item(1, 0, 5);
        x.tape(2, 3, 0);
        x.tape(3, 2, 2);
        x.tape(4, 4, 1);
        x.item(4, 0, 1);
        x.tape(5, 1, 1);
        return x;
    }
}
