/** Judging, the image and the tapes (Terms 3, promises 29 to 36) at their bounds, a sentence a test. */
final class TapeBoundsTest extends Sentences {
    private static final int[] NO_TAPES = {-1, 6, 7, LEAST, MOST, 256};
    private static final int[] FAR_PLACES = {LEAST, LEAST + 1, -61, -1, 60, 61, 256, MOST - 60, MOST - 1, MOST};

    public static void main(String[] args) {
        begin("TapeBoundsTest");
        judgedOfWhich();
        judgedOtherSorts();
        judgedNothing();
        judgedPlaces();
        judgedRowEnds();
        judgedFirstOtherwise();
        judgedKinds();
        judgedLongNumbers();
        judgedOfMany();
        imageParts();
        imageIsTheLatest();
        undoWithoutImage();
        undoEachOfThem();
        undoAgain();
        undoOfNothing();
        countOfWhich();
        countUpToFull();
        tapeOfWhich();
        tapeSorts();
        tapeLengths();
        tapeOrder();
        tapeHoldsNothing();
        tapeAllZero();
        tapesAreApart();
        itemOfWhich();
        itemNothingThere();
        itemPlaces();
        itemBytes();
        itemShorts();
        itemInts();
        itemLongs();
        itemBooleans();
        peekOfWhich();
        peekPlaces();
        shiftOfWhich();
        shiftNothingThere();
        shiftUnlikeSorts();
        shiftPlaces();
        shiftNone();
        shiftAll();
        shiftOntoItself();
        shiftEachSort();
        lastCalls();
        finish();
    }

    private static void judgedOfWhich() {
        sentence("judge: NONE: tape");
        PlateCuts x = new PlateCuts();
        for (int tape : NO_TAPES) {
            due("judge(" + tape + ", 0)", x.judge(tape, 0), NONE);
            due("judge(" + tape + ", -1), NONE ahead of all", x.judge(tape, -1), NONE);
        }
        for (int tape = 0; tape <= 5; tape++) {
            tell(x, tape, 0);
            due("judge(" + tape + ", 0)", x.judge(tape, 0), WITHOUT);
        }
    }

    private static void judgedOtherSorts() {
        sentence("judge: CAST: it is no row of longs");
        for (int sort = BYTES; sort <= BOOLEANS; sort++) {
            for (int length : new int[] {0, 1, 60}) {
                PlateCuts x = new PlateCuts();
                x.tape(0, sort, length);
                int due = sort != LONGS ? CAST : length == 0 ? 100 : WITHOUT;
                due("sort " + sort + ", " + length + " long", x.judge(0, 0), due);
                due("the place is beyond it", x.judge(0, length), sort == LONGS ? 100 : CAST);
                due("the place is below 0", x.judge(0, -1), sort == LONGS ? 100 : CAST);
                due("the place is far below 0", x.judge(0, LEAST), sort == LONGS ? 100 : CAST);
            }
        }
    }

    private static void judgedNothing() {
        sentence("JUDGED: 100, if the TAPE holds nothing");
        PlateCuts x = new PlateCuts();
        for (int tape = 0; tape <= 5; tape++) {
            due("at first: judge(" + tape + ", 0)", x.judge(tape, 0), 100);
            due("below 0", x.judge(tape, -1), 100);
            due("far beyond", x.judge(tape, MOST), 100);
        }
        x.tape(0, LONGS, 1);
        due("a row", x.judge(0, 0), WITHOUT);
        x.tape(0, -1, 0);
        due("nothing again", x.judge(0, 0), 100);
    }

    private static void judgedPlaces() {
        sentence("JUDGED: 100 and how many were looked at, if the row ends ahead of that (or the place is below 0)");
        PlateCuts x = new PlateCuts();
        x.tape(0, LONGS, 60);
        for (int i = 0; i < 60; i++) {
            due("judge(0, " + i + ")", x.judge(0, i), WITHOUT);
        }
        for (int i : FAR_PLACES) {
            due("judge(0, " + i + ")", x.judge(0, i), 100);
        }
    }

    private static void judgedRowEnds() {
        sentence("JUDGED: 100 and how many were looked at, wherever the row ends");
        PlateCuts x = from("s31;p114");
        long[] told = {201, 100, 201, 100, 100};
        for (int length = 0; length <= 7; length++) {
            x.tape(1, LONGS, length);
            for (int i = 0; i < length && i < told.length; i++) {
                x.item(1, i, told[i]);
            }
            due(length + " items", x.judge(1, 0), length < told.length ? 100 + length : WITHOUT);
        }
        for (int from = 0; from <= 4; from++) {
            tell(x, 2, -1, -1, -1, -1, -1, -1, -1, -1);
            x.tape(3, LONGS, 5);
            for (int i = 0; i < 5; i++) {
                x.item(3, i, told[i]);
            }
            x.shift(3, 0, 2, from, Math.min(5, 8 - from));
            due("from " + from + " on, of 8 items", x.judge(2, from), from <= 3 ? WITHOUT : 104);
        }
    }

    private static void judgedFirstOtherwise() {
        sentence("JUDGED: the first NODE that is otherwise");
        PlateCuts x = from("s31;p114");
        long[] told = {201, 100, 201, 100, 100};
        for (int first = 0; first < told.length; first++) {
            for (int second = first; second < told.length; second++) {
                tell(x, 0, told);
                x.item(0, first, told[first] + 1);
                x.item(0, second, -told[second]);
                due(first + " and " + second + " are otherwise", x.judge(0, 0), first);
            }
            tell(x, 0, told);
            x.item(0, first, 0);
            x.tape(1, LONGS, first + 1);
            x.shift(0, 0, 1, 0, first + 1);
            due(first + " is otherwise, and the row ends", x.judge(1, 0), first);
        }
    }

    private static void judgedKinds() {
        sentence("each 100 times the KIND, and the number of the PART, or k, where it is CUT (WASTE: 0)");
        PlateCuts waste = from("s77");
        tell(waste, 0, 0);
        due("WASTE", waste.judge(0, 0), WITHOUT);
        tell(waste, 0, -5);
        due("WASTE is not -5", waste.judge(0, 0), 0);
        PlateCuts part = from("s11;p111;p112;p113;p114;p115");
        tell(part, 0, 104);
        due("PART 4", part.judge(0, 0), WITHOUT);
        tell(part, 0, 100);
        due("PART 0", part.judge(0, 0), 0);
        PlateCuts upright = from("s71;p619;d60");
        tell(upright, 0, 206, 100, 0);
        due("UPRIGHT at 6", upright.judge(0, 0), WITHOUT);
        PlateCuts level = from("s17;p169;d06");
        tell(level, 0, 306, 100, 0);
        due("LEVEL at 6", level.judge(0, 0), WITHOUT);
        tell(level, 0, 206, 100, 0);
        due("not UPRIGHT", level.judge(0, 0), 0);
    }

    private static void judgedLongNumbers() {
        sentence("JUDGED: all of a long counts, its upper bits, too");
        PlateCuts x = from("s21;p113");
        tell(x, 0, 201, 100, 100);
        due("as it is", x.judge(0, 0), WITHOUT);
        for (int bit = 0; bit < 64; bit++) {
            x.item(0, 1, 100L ^ 1L << bit);
            due("bit " + bit, x.judge(0, 0), 1);
        }
        x.item(0, 1, NO);
        due("the least long", x.judge(0, 0), 1);
        x.item(0, 1, Long.MAX_VALUE);
        due("the greatest long", x.judge(0, 0), 1);
    }

    private static void judgedOfMany() {
        sentence("JUDGED: more NODES than a TAPE has items");
        PlateCuts x = from("s77;p111");
        x.tape(0, LONGS, 60);
        for (int node = 0; node < 60; node++) {
            x.item(0, node, 100L * x.node(node, 0) + x.node(node, 5));
        }
        due("all of 60", x.judge(0, 0), 160);
        x.item(0, 59, 7);
        due("the last item", x.judge(0, 0), 59);
        x.item(0, 0, 7);
        due("the first item", x.judge(0, 0), 0);
    }

    private static void imageParts() {
        sentence("image: THE IMAGE is taken: how many PARTS there are");
        PlateCuts x = new PlateCuts();
        for (int parts = 0; parts <= 5; parts++) {
            due(parts + " parts", x.image(), parts);
            due("undo()", x.undo(), parts);
            x.part(1, 1, 1, true);
        }
        due("told(3)", x.told(3), 5);
    }

    private static void imageIsTheLatest() {
        sentence("image: a later one stands for the one before");
        PlateCuts x = from("s22;k1;p113");
        due("image()", x.image(), 1);
        due("read", readAll(x, "s33;k2;p224"), 3);
        due("image()", x.image(), 2);
        x.plate(1, 1);
        due("undo()", x.undo(), 2);
        stands(x, 3, 3, 2, 2, 0);
        due("once more", x.undo(), 2);
        stands(x, 3, 3, 2, 2, 0);
    }

    private static void undoWithoutImage() {
        sentence("undo: STATE: there is none");
        due("a new one", new PlateCuts().undo(), STATE);
        PlateCuts x = from("s33;k1;p111;d22");
        x.see(0, 1);
        x.event(0, 1);
        x.book(0, 1);
        due("undo()", x.undo(), STATE);
        stands(x, 3, 3, 1, 1, 1);
        due("count(0)", x.count(0), 1);
        due("count(1)", x.count(1), 1);
        due("count(2)", x.count(2), 1);
    }

    private static void undoEachOfThem() {
        sentence("THE IMAGE: THE PLATE, KERF, PARTS, DEFECTS, SEEN, EVENTS, the BOOK");
        PlateCuts x = from("s65;k1;p119;t237;d01");
        x.see(0, 9);
        x.event(1, 54);
        x.book(1, 2);
        due("image()", x.image(), 2);
        due("BEST", x.told(5), 81);

        x.plate(7, 4);
        due("undo: THE PLATE", x.undo(), 2);
        stands(x, 6, 5, 1, 2, 1);
        x.kerf(0);
        due("undo: KERF", x.undo(), 2);
        stands(x, 6, 5, 1, 2, 1);
        x.part(5, 5, 5, false);
        due("undo: a PART more", x.undo(), 2);
        due("of(2, 0)", x.of(2, 0), NONE);
        due("a part comes again as the third", x.part(4, 4, 4, false), 2);
        due("undo()", x.undo(), 2);
        x.renew(0, 0, 7);
        x.renew(0, 1, 6);
        x.renew(0, 2, 5);
        x.turn(1, false);
        due("undo: what is of a PART", x.undo(), 2);
        int[][] facts = {{1, 1, 9, 0, 9}, {2, 3, 7, 1, 0}};
        for (int part = 0; part < 2; part++) {
            for (int what = 0; what <= 4; what++) {
                due("of(" + part + ", " + what + ")", x.of(part, what), facts[part][what]);
            }
        }
        x.mend();
        x.defect(5, 4);
        x.defect(4, 4);
        due("undo: DEFECTS", x.undo(), 2);
        due("told(4)", x.told(4), 1);
        due("defect(0, 1)", x.defect(0, 1), STATE);
        due("defect(5, 4)", x.defect(5, 4), 2);
        due("undo()", x.undo(), 2);
        undoWhatIsTold(x);
    }

    private static void undoWhatIsTold(PlateCuts x) {
        // in 2 by 3 the saw leaves two of part 0, which are worth more than part 1 from 4 on
        due("fits(0, 1)", x.fits(0, 1), 4);
        x.see(-1, 0);
        x.see(0, 49);
        due("fits(0, 1)", x.fits(0, 1), WITHOUT);
        due("undo: SEEN", x.undo(), 2);
        due("count(0)", x.count(0), 1);
        due("fits(0, 1)", x.fits(0, 1), 4);
        due("after(0)", x.after(0), 81);
        x.event(-1, 0);
        x.event(3, 0);
        x.event(0, 0);
        due("four of part 1, and five of part 0 for 1", x.after(0), 33);
        due("undo: EVENTS", x.undo(), 2);
        due("count(1)", x.count(1), 1);
        due("after(0)", x.after(0), 81);
        due("looked()", x.looked(), 0);
        x.book(-1, 0);
        x.book(0, 9);
        due("looked()", x.looked(), WITHOUT);
        due("undo: the BOOK", x.undo(), 2);
        due("count(2)", x.count(2), 1);
        due("looked()", x.looked(), 0);
    }

    private static void undoAgain() {
        sentence("undo: All is as THE IMAGE: it stands, and what comes behind it doesn't change it");
        PlateCuts x = from("s33;p114");
        x.image();
        for (int times = 0; times < 4; times++) {
            x.renew(0, 2, 90);
            x.defect(times % 3, 0);
            x.see(0, 1);
            x.event(0, 2);
            x.book(0, 3);
            due("undo()", x.undo(), 1);
            due("told(5)", x.told(5), 36);
            stands(x, 3, 3, 0, 1, 0);
            due("rows told by hand", x.count(0) + x.count(1) + x.count(2), 0);
        }
    }

    private static void undoOfNothing() {
        sentence("undo: THE TEXT and the TAPES are not in THE IMAGE");
        PlateCuts x = new PlateCuts();
        x.feed('k');
        tell(x, 0, 5);
        due("image()", x.image(), 0);
        x.feed('1');
        x.item(0, 0, 6);
        tell(x, 1, 7);
        due("undo()", x.undo(), 0);
        due("count(3)", x.count(3), 2);
        holdsJust(x, 0, 6);
        holdsJust(x, 1, 7);
        due("read()", x.read(), 1);
        due("undo()", x.undo(), 0);
        due("told(2)", x.told(2), 0);
        due("count(3)", x.count(3), 0);
    }

    private static void countOfWhich() {
        sentence("count: what 0 .. 3; BAD");
        PlateCuts x = from("p111");
        for (int what = -2; what <= 6; what++) {
            due("count(" + what + ")", x.count(what), what >= 0 && what <= 3 ? 0 : BAD);
        }
        due("count(LEAST)", x.count(LEAST), BAD);
        due("count(MOST)", x.count(MOST), BAD);
    }

    private static void countUpToFull() {
        sentence("count: How many: 0 SEEN, 1 EVENTS, 2 of the BOOK, 3 bytes of THE TEXT: up to what is FULL");
        PlateCuts x = from("p111");
        for (int i = 0; i < 101; i++) {
            x.see(0, 1);
            x.event(0, 1);
            x.book(0, 1);
            x.feed('s');
        }
        int[] most = {5, 8, 8, 100};
        for (int what = 0; what <= 3; what++) {
            due("count(" + what + ")", x.count(what), most[what]);
        }
    }

    private static void tapeOfWhich() {
        sentence("TAPES 0 .. 5; tape: NONE: tape");
        PlateCuts x = new PlateCuts();
        for (int tape = 0; tape <= 5; tape++) {
            due("tape(" + tape + ", 2, 1)", x.tape(tape, 2, 1), 1);
        }
        for (int tape : NO_TAPES) {
            due("tape(" + tape + ", 2, 1)", x.tape(tape, 2, 1), NONE);
            due("tape(" + tape + ", -1, 0)", x.tape(tape, -1, 0), NONE);
        }
        for (int tape = 0; tape <= 5; tape++) {
            holdsJust(x, tape, 0);
        }
    }

    private static void tapeSorts() {
        sentence("tape: a row of a sort 0 .. 4, or -1; BAD: sort");
        for (int sort = -3; sort <= 7; sort++) {
            PlateCuts x = new PlateCuts();
            tell(x, 3, 11, 12);
            boolean good = sort >= -1 && sort <= 4;
            due("tape(3, " + sort + ", 1)", x.tape(3, sort, 1), good ? 1 : BAD);
            due("peek(3, 0)", x.peek(3, 0), !good ? 11 : sort == -1 ? NO : 0);
            due("peek(3, 1)", x.peek(3, 1), !good ? 12 : NO);
        }
        PlateCuts x = new PlateCuts();
        for (int sort : new int[] {LEAST, -256, 255, 256, 259, MOST}) {
            due("tape(3, " + sort + ", 1)", x.tape(3, sort, 1), BAD);
        }
        due("it still holds nothing", x.item(3, 0, 1), NOTHING);
    }

    private static void tapeLengths() {
        sentence("tape: of n (0 .. 60): BAD: n above 60; SIZE: a size below 0");
        for (int sort = BYTES; sort <= BOOLEANS; sort++) {
            for (int n = -2; n <= 63; n++) {
                PlateCuts x = new PlateCuts();
                due("tape(0, " + sort + ", " + n + ")", x.tape(0, sort, n), n < 0 ? SIZE : n > 60 ? BAD : 1);
                due("the last place", x.peek(0, n - 1), n >= 1 && n <= 60 ? 0 : NO);
                due("beyond it", x.item(0, n, 1), n < 0 || n > 60 ? NOTHING : PLACE);
            }
            PlateCuts x = new PlateCuts();
            due("LEAST", x.tape(0, sort, LEAST), SIZE);
            due("MOST", x.tape(0, sort, MOST), BAD);
            due("it holds nothing", x.item(0, 0, 1), NOTHING);
        }
    }

    private static void tapeOrder() {
        sentence("tape: NONE: tape; BAD: sort, n above 60; SIZE - in this order");
        PlateCuts x = new PlateCuts();
        tell(x, 0, 4);
        due("tape and sort", x.tape(6, 5, 1), NONE);
        due("tape and n above", x.tape(-1, 0, 61), NONE);
        due("tape and size", x.tape(6, 0, -1), NONE);
        due("all", x.tape(-1, -2, -1), NONE);
        due("sort and n above", x.tape(0, 5, 61), BAD);
        due("sort and size", x.tape(0, 5, -1), BAD);
        due("sort and size", x.tape(0, -2, LEAST), BAD);
        holdsJust(x, 0, 4);
    }

    private static void tapeHoldsNothing() {
        sentence("tape: or holds nothing (sort -1: n does not matter): 1");
        for (int n : new int[] {0, 1, 60, 61, -1, LEAST, MOST}) {
            PlateCuts x = new PlateCuts();
            due("of a tape that holds nothing", x.tape(5, -1, n), 1);
            tell(x, 5, 4, 5);
            due("tape(5, -1, " + n + ")", x.tape(5, -1, n), 1);
            due("peek", x.peek(5, 0), NO);
            due("item", x.item(5, 0, 1), NOTHING);
            due("shift", x.shift(5, 0, 5, 0, 0), NOTHING);
            due("judge", x.judge(5, 0), 100);
        }
    }

    private static void tapeAllZero() {
        sentence("tape: a row of n of a sort, all 0");
        PlateCuts x = new PlateCuts();
        for (int sort = BYTES; sort <= BOOLEANS; sort++) {
            x.tape(2, sort, 60);
            for (int i = 0; i < 60; i += 59) {
                due("item(2, " + i + ", 1)", x.item(2, i, 1), 1);
            }
            x.tape(2, -1, 0);
            x.tape(2, sort, 60);
            due("behind nothing", x.peek(2, 0), 0);
            due("behind nothing", x.peek(2, 59), 0);
            x.item(2, 59, 1);
            x.tape(2, sort, 1);
            x.tape(2, sort, 60);
            due("behind a shorter one", x.peek(2, 59), 0);
            x.item(2, 3, 1);
            x.tape(2, sort, 60);
            due("behind one alike", x.peek(2, 3), 0);
        }
    }

    private static void tapesAreApart() {
        sentence("TAPES 0 .. 5: each is a row of its own");
        PlateCuts x = new PlateCuts();
        for (int tape = 0; tape <= 5; tape++) {
            tell(x, tape, 10 + tape, 20 + tape);
        }
        x.item(2, 0, 99);
        x.tape(4, -1, 0);
        x.tape(5, BYTES, 1);
        holdsJust(x, 0, 10, 20);
        holdsJust(x, 1, 11, 21);
        holdsJust(x, 2, 99, 22);
        holdsJust(x, 3, 13, 23);
        holdsJust(x, 4);
        holdsJust(x, 5, 0);
    }

    private static void itemOfWhich() {
        sentence("item: NONE");
        PlateCuts x = new PlateCuts();
        for (int tape : NO_TAPES) {
            due("item(" + tape + ", 0, 1)", x.item(tape, 0, 1), NONE);
            due("item(" + tape + ", -1, 1), NONE ahead of all", x.item(tape, -1, 1), NONE);
        }
    }

    private static void itemNothingThere() {
        sentence("item: NOTHING (-11): nothing is there; it goes ahead of PLACE");
        PlateCuts x = new PlateCuts();
        for (int tape = 0; tape <= 5; tape++) {
            due("item(" + tape + ", 0, 1)", x.item(tape, 0, 1), NOTHING);
            for (int i : FAR_PLACES) {
                due("item(" + tape + ", " + i + ", 1)", x.item(tape, i, 1), NOTHING);
            }
        }
        x.tape(0, LONGS, 0);
        due("an empty row is something", x.item(0, 0, 1), PLACE);
    }

    private static void itemPlaces() {
        sentence("item: PLACE (-13): no such place");
        for (int sort = BYTES; sort <= BOOLEANS; sort++) {
            PlateCuts x = new PlateCuts();
            x.tape(1, sort, 60);
            x.tape(2, sort, 3);
            for (int i : FAR_PLACES) {
                due("item(1, " + i + ", 1)", x.item(1, i, 1), PLACE);
                due("item(2, " + i + ", 1)", x.item(2, i, 1), PLACE);
            }
            due("item(2, 3, 1)", x.item(2, 3, 1), PLACE);
            due("the first", x.item(1, 0, 1), 1);
            due("the last", x.item(1, 59, 1), 1);
            due("the last", x.item(2, 2, 1), 1);
            holdsJust(x, 2, 0, 0, 1);
        }
    }

    /** Pairs: what an item shall become, what it is then. */
    private static void becomes(int sort, long... pairs) {
        PlateCuts x = new PlateCuts();
        x.tape(0, sort, 3);
        for (int i = 0; i + 1 < pairs.length; i += 2) {
            due("item(0, 1, " + pairs[i] + ")", x.item(0, 1, pairs[i]), 1);
            holdsJust(x, 0, 0, pairs[i + 1], 0);
        }
    }

    private static void itemBytes() {
        sentence("item: its lowest bits, as many as an item has: 0 bytes");
        becomes(BYTES, 127, 127, 128, -128, 255, -1, 256, 0, 257, 1, -128, -128, -129, 127, -1, -1,
            Long.MAX_VALUE, -1, Long.MIN_VALUE, 0, 0x7FFFFFFF00L, 0, 383, 127, 384, -128);
    }

    private static void itemShorts() {
        sentence("item: its lowest bits, as many as an item has: 1 shorts");
        becomes(SHORTS, 32767, 32767, 32768, -32768, 65535, -1, 65536, 0, 65537, 1, -32768, -32768, -32769, 32767, -1, -1,
            128, 128, Long.MAX_VALUE, -1, Long.MIN_VALUE, 0);
    }

    private static void itemInts() {
        sentence("item: its lowest bits, as many as an item has: 2 ints");
        becomes(INTS, MOST, MOST, MOST + 1L, LEAST, (1L << 32) - 1, -1, 1L << 32, 0, (1L << 32) + 1, 1, LEAST, LEAST,
            LEAST - 1L, MOST, -1, -1, 32768, 32768, Long.MAX_VALUE, -1, Long.MIN_VALUE, 0);
    }

    private static void itemLongs() {
        sentence("item: all the bits of it: 3 longs");
        becomes(LONGS, Long.MAX_VALUE, Long.MAX_VALUE, Long.MIN_VALUE + 1, Long.MIN_VALUE + 1, -1, -1, 1L << 32, 1L << 32,
            MOST + 1L, MOST + 1L, Long.MIN_VALUE, Long.MIN_VALUE);
    }

    private static void itemBooleans() {
        sentence("item: booleans: whether v is not 0; 4 booleans (items 0, 1)");
        becomes(BOOLEANS, 1, 1, 0, 0, 2, 1, -1, 1, 256, 1, 0, 0, 65536, 1, 1L << 32, 1, Long.MIN_VALUE, 1, Long.MAX_VALUE, 1);
    }

    private static void peekOfWhich() {
        sentence("peek: NO: no such TAPE, nothing there");
        PlateCuts x = new PlateCuts();
        for (int tape : NO_TAPES) {
            due("peek(" + tape + ", 0)", x.peek(tape, 0), NO);
            due("peek(" + tape + ", -1)", x.peek(tape, -1), NO);
        }
        for (int tape = 0; tape <= 5; tape++) {
            due("peek(" + tape + ", 0)", x.peek(tape, 0), NO);
        }
    }

    private static void peekPlaces() {
        sentence("peek: NO: no such place");
        for (int length : new int[] {0, 1, 59, 60}) {
            PlateCuts x = new PlateCuts();
            x.tape(3, INTS, length);
            for (int i = -2; i <= 62; i++) {
                due("peek(3, " + i + ") of " + length, x.peek(3, i), i >= 0 && i < length ? 0 : NO);
            }
            for (int i : new int[] {LEAST, 256, MOST}) {
                due("peek(3, " + i + ")", x.peek(3, i), NO);
            }
        }
    }

    private static void shiftOfWhich() {
        sentence("shift: NONE: tapes; ahead of NOTHING, CAST, PLACE");
        PlateCuts x = new PlateCuts();
        tell(x, 0, 1, 2);
        for (int tape : NO_TAPES) {
            due("from " + tape, x.shift(tape, 0, 0, 0, 1), NONE);
            due("to " + tape, x.shift(0, 0, tape, 0, 1), NONE);
            due("from and to " + tape, x.shift(tape, 0, tape, 0, 1), NONE);
            due("and nothing is there", x.shift(tape, 0, 1, 0, 1), NONE);
            due("and nothing is there", x.shift(1, 0, tape, 0, 1), NONE);
            due("and no place", x.shift(0, -1, tape, 0, 1), NONE);
        }
        holdsJust(x, 0, 1, 2);
    }

    private static void shiftNothingThere() {
        sentence("shift: NOTHING; ahead of PLACE");
        PlateCuts x = new PlateCuts();
        tell(x, 0, 1, 2);
        due("from", x.shift(1, 0, 0, 0, 1), NOTHING);
        due("to", x.shift(0, 0, 1, 0, 1), NOTHING);
        due("both", x.shift(1, 0, 2, 0, 1), NOTHING);
        due("the same", x.shift(1, 0, 1, 0, 0), NOTHING);
        due("none", x.shift(0, 0, 1, 0, 0), NOTHING);
        due("and no place", x.shift(1, -1, 0, 0, 1), NOTHING);
        due("and no place", x.shift(0, 3, 1, 0, 1), NOTHING);
        due("and no place", x.shift(0, 0, 1, 0, -1), NOTHING);
        holdsJust(x, 0, 1, 2);
    }

    private static void shiftUnlikeSorts() {
        sentence("shift: CAST: of unlike sorts; ahead of PLACE");
        for (int from = BYTES; from <= BOOLEANS; from++) {
            for (int to = BYTES; to <= BOOLEANS; to++) {
                PlateCuts x = new PlateCuts();
                x.tape(0, from, 2);
                x.tape(1, to, 2);
                x.item(0, 0, 1);
                due(from + " to " + to, x.shift(0, 0, 1, 1, 1), from == to ? 1 : CAST);
                holdsJust(x, 1, 0, from == to ? 1 : 0);
                due("none", x.shift(0, 0, 1, 0, 0), from == to ? 0 : CAST);
                due("and no place", x.shift(0, -1, 1, 0, 1), from == to ? PLACE : CAST);
                due("and no place", x.shift(0, 0, 1, 2, 1), from == to ? PLACE : CAST);
                due("and no place", x.shift(0, 0, 1, 0, -1), from == to ? PLACE : CAST);
            }
        }
    }

    private static void shiftPlaces() {
        sentence("shift: PLACE: n, i or j is below 0, or beyond either's end");
        for (int i = -1; i <= 5; i++) {
            for (int j = -1; j <= 4; j++) {
                for (int n = -1; n <= 5; n++) {
                    PlateCuts x = new PlateCuts();
                    x.tape(0, INTS, 4);
                    x.tape(1, INTS, 3);
                    x.item(0, 3, 7);
                    boolean good = i >= 0 && j >= 0 && n >= 0 && i + n <= 4 && j + n <= 3;
                    due("shift(0, " + i + ", 1, " + j + ", " + n + ")", x.shift(0, i, 1, j, n), good ? n : PLACE);
                    due("the last item", x.peek(1, 2), good && i + n == 4 && j + n == 3 && n > 0 ? 7 : 0);
                }
            }
        }
        PlateCuts x = new PlateCuts();
        x.tape(0, INTS, 4);
        x.tape(1, INTS, 3);
        int[] far = {LEAST, LEAST + 1, MOST - 1, MOST};
        for (int v : far) {
            due("i " + v, x.shift(0, v, 1, 0, 1), PLACE);
            due("j " + v, x.shift(0, 0, 1, v, 1), PLACE);
            due("n " + v, x.shift(0, 0, 1, 0, v), PLACE);
            due("i and n wrap around " + v, x.shift(0, v, 1, 0, MOST), PLACE);
            due("j and n wrap around " + v, x.shift(0, 1, 1, v, MOST), PLACE);
            due("1 and n wrap around " + v, x.shift(0, 1, 1, 1, v), PLACE);
            due("none, i " + v, x.shift(0, v, 1, 0, 0), PLACE);
            due("none, j " + v, x.shift(0, 0, 1, v, 0), PLACE);
        }
    }

    private static void shiftNone() {
        sentence("shift: n items: 0 of them, up to the very end");
        PlateCuts x = new PlateCuts();
        tell(x, 0, 1, 2, 3);
        tell(x, 1, 4);
        x.tape(2, LONGS, 0);
        due("at the beginning", x.shift(0, 0, 1, 0, 0), 0);
        due("at the end of both", x.shift(0, 3, 1, 1, 0), 0);
        due("of an empty row", x.shift(2, 0, 0, 0, 0), 0);
        due("to an empty row", x.shift(0, 0, 2, 0, 0), 0);
        due("of an empty row to itself", x.shift(2, 0, 2, 0, 0), 0);
        due("beyond the end", x.shift(0, 4, 1, 0, 0), PLACE);
        due("beyond the other's end", x.shift(0, 0, 1, 2, 0), PLACE);
        due("beyond an empty row's end", x.shift(2, 1, 0, 0, 0), PLACE);
        due("one of an empty row", x.shift(2, 0, 0, 0, 1), PLACE);
        holdsJust(x, 0, 1, 2, 3);
        holdsJust(x, 1, 4);
    }

    private static void shiftAll() {
        sentence("shift: n items: all 60");
        PlateCuts x = new PlateCuts();
        x.tape(0, BYTES, 60);
        x.tape(5, BYTES, 60);
        for (int i = 0; i < 60; i++) {
            x.item(0, i, i + 1);
        }
        due("60", x.shift(0, 0, 5, 0, 60), 60);
        for (int i = 0; i < 60; i++) {
            due("peek(5, " + i + ")", x.peek(5, i), i + 1);
            due("peek(0, " + i + ")", x.peek(0, i), i + 1);
        }
        due("61", x.shift(0, 0, 5, 0, 61), PLACE);
        due("60 from 1 on", x.shift(0, 1, 5, 0, 60), PLACE);
        due("60 to 1", x.shift(0, 0, 5, 1, 60), PLACE);
        due("the last to the first", x.shift(0, 59, 5, 0, 1), 1);
        due("peek(5, 0)", x.peek(5, 0), 60);
    }

    private static void shiftOntoItself() {
        sentence("shift: come to another one (or the same), as they all were before");
        for (int i = 0; i <= 4; i++) {
            for (int j = 0; j <= 4; j++) {
                int n = 6 - Math.max(i, j);
                PlateCuts x = new PlateCuts();
                long[] items = {1, 2, 3, 4, 5, 6};
                tell(x, 3, items);
                due("shift(3, " + i + ", 3, " + j + ", " + n + ")", x.shift(3, i, 3, j, n), n);
                long[] then = items.clone();
                for (int k = 0; k < n; k++) {
                    then[j + k] = items[i + k];
                }
                holdsJust(x, 3, then);
            }
        }
    }

    private static void shiftEachSort() {
        sentence("shift: items of each sort come as they were");
        long[] least = {Byte.MIN_VALUE, Short.MIN_VALUE, LEAST, Long.MIN_VALUE + 1, 1};
        long[] most = {Byte.MAX_VALUE, Short.MAX_VALUE, MOST, Long.MAX_VALUE, 0};
        for (int sort = BYTES; sort <= BOOLEANS; sort++) {
            PlateCuts x = new PlateCuts();
            x.tape(0, sort, 2);
            x.tape(4, sort, 3);
            x.item(0, 0, least[sort]);
            x.item(0, 1, most[sort]);
            due("shift", x.shift(0, 0, 4, 1, 2), 2);
            holdsJust(x, 4, 0, least[sort], most[sort]);
        }
    }

    private static void lastCalls() {
        sentence("An object is used for at most 512 calls: the 512th is answered as the first");
        PlateCuts x = new PlateCuts();
        int calls = 0;
        for (; calls < 500; calls += 5) {
            x.plate(1 + calls % 7, 7);
            x.kerf(calls % 3);
            x.part(1, 1, 1, false);
            x.told(5);
            x.image();
        }
        for (; calls < 509; calls++) {
            x.kerf(0);
        }
        due("plate(7, 7)", x.plate(7, 7), 49);
        due("told(6)", x.told(6), 97);
        due("call 512", x.told(5), 49);
    }
}
