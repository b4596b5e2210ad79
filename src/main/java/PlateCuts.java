import java.util.Arrays;

/**
 * Plates cut across whole into parts. The document (../shared/DOC.md) says what each call answers;
 * the words used here (piece, part, cut, node, stage, ...) are its words.
 *
 * All rows are made with the object and used again: no call makes an object.
 */
public final class PlateCuts {
    public static final int NONE = -1, BAD = -2, STATE = -3, FULL = -4;
    public static final long NO = Long.MIN_VALUE;

    /** The answer where the document says -5: what is asked for is fine, but there is none. */
    private static final int WITHOUT = -5;
    private static final int NOTHING = -11, CAST = -12, PLACE = -13, SIZE = -14;
    /** A faulty text is answered with this less the place of the fault. */
    private static final int FAULTY = -10;

    private static final int MOST_SIDE = 7, MOST_KERF = 2, MOST_WORTH = 99;
    private static final int MOST_PARTS = 5, MOST_DEFECTS = 3, MOST_STAGES = 3;
    private static final int MOST_SEEN = 5, MOST_EVENTS = 8, MOST_BOOKED = 8, MOST_TIMES = 49;
    private static final int MOST_BYTES = 100, MOST_SIGN = 127, MOST_CLAUSES = 12;
    private static final int MOST_TAPES = 6, MOST_ITEMS = 60;
    private static final int FITTING_WORTHS = 20, LIKELY_WORTHS = 10;

    /** What a part has: these places of its row, in the order in which they are asked for. */
    private static final int PART_WIDE = 0, PART_HIGH = 1, PART_WORTH = 2, PART_TURNS = 3, PART_FACTS = 4;
    private static final int ASKED_USED = 4;

    /** What a node has: these places of its row, in the order in which they are asked for. */
    private static final int NODE_KIND = 0, NODE_X = 1, NODE_Y = 2, NODE_WIDE = 3, NODE_HIGH = 4;
    private static final int NODE_NUMBER = 5, NODE_FROM = 6, NODE_BEST = 7, NODE_FACTS = 8;
    private static final int WASTE = 0, PART = 1, CUT = 2;
    private static final int UPRIGHT = 0, LEVEL = 1, BOTH_WAYS = 3;

    /** 49 squares at most: leaves and cuts that lose a strip need one each, cuts in two are one less than leaves. */
    private static final int MOST_NODES = 97;
    /** A cut takes at least one from a side, and 7 by 7 is down to 1 by 1 behind 12. */
    private static final int MOST_DEEP = 12;

    private static final int KERF_EVENT = 0, DEFECT_EVENT = 1, TURN_EVENT = 2, CHEAP_EVENT = 3;

    private static final int BYTES = 0, SHORTS = 1, INTS = 2, LONGS = 3, BOOLEANS = 4;
    private static final int HOLDS_NOTHING = -1;

    /** Euclid needs fewer steps than this for any two longs. */
    private static final int MOST_STEPS = 100;

    private final State now = new State();
    private final State image = new State();
    private boolean hasImage;
    private final Cuts cuts = new Cuts(now.setup);
    private boolean cutsAreFresh;
    /** Where "were it so" is tried out, so that what is asked changes nothing. */
    private final Setup trial = new Setup();
    private final Cuts trialCuts = new Cuts(trial);
    private final Text text = new Text();
    private final Tape[] tapes = new Tape[MOST_TAPES];

    public PlateCuts() {
        for (int i = 0; i < MOST_TAPES; i++) {
            tapes[i] = new Tape();
        }
    }

    // ---- the plate, parts

    public int plate(int wide, int high) {
        if (!isSide(wide) || !isSide(high)) {
            return BAD;
        }
        now.setup.wide = wide;
        now.setup.high = high;
        now.setup.defects = 0L;
        cutsAreFresh = false;
        return wide * high;
    }

    public int kerf(int kerf) {
        if (kerf < 0 || kerf > MOST_KERF) {
            return BAD;
        }
        int was = now.setup.kerf;
        now.setup.kerf = kerf;
        cutsAreFresh = false;
        return was;
    }

    public int part(int wide, int high, int worth, boolean mayTurn) {
        if (!isSide(wide) || !isSide(high) || !isWorth(worth)) {
            return BAD;
        }
        int part = now.setup.parts;
        if (part >= MOST_PARTS) {
            return FULL;
        }
        now.setup.parts = part + 1;
        now.setup.write(part, PART_WIDE, wide);
        now.setup.write(part, PART_HIGH, high);
        now.setup.write(part, PART_WORTH, worth);
        now.setup.write(part, PART_TURNS, mayTurn ? 1 : 0);
        cutsAreFresh = false;
        return part;
    }

    public int renew(int part, int what, int v) {
        if (!now.setup.has(part) || what < PART_WIDE || what > PART_WORTH) {
            return NONE;
        }
        boolean good = what == PART_WORTH ? isWorth(v) : isSide(v);
        if (!good) {
            return BAD;
        }
        return rewrite(part, what, v);
    }

    public int turn(int part, boolean mayTurn) {
        if (!now.setup.has(part)) {
            return NONE;
        }
        return rewrite(part, PART_TURNS, mayTurn ? 1 : 0);
    }

    public int of(int part, int what) {
        if (!now.setup.has(part) || what < PART_WIDE || what > ASKED_USED) {
            return NONE;
        }
        return what == ASKED_USED ? freshCuts().timesUsed(part) : now.setup.fact(part, what);
    }

    public int defect(int x, int y) {
        if (!now.setup.hasSquare(x, y)) {
            return NONE;
        }
        long square = squares(x, y, 1, 1);
        if ((now.setup.defects & square) != 0L) {
            return STATE;
        }
        int there = Long.bitCount(now.setup.defects);
        if (there >= MOST_DEFECTS) {
            return FULL;
        }
        now.setup.defects |= square;
        cutsAreFresh = false;
        return there + 1;
    }

    public int mend() {
        int were = Long.bitCount(now.setup.defects);
        now.setup.defects = 0L;
        cutsAreFresh = false;
        return were;
    }

    public int feed(int sign) {
        if (sign < 0 || sign > MOST_SIGN) {
            return BAD;
        }
        return text.append(sign) ? text.length : FULL;
    }

    public int read() {
        int fault = text.firstFault();
        int answer = fault >= 0 ? FAULTY - fault : doClauses();
        text.length = 0;
        return answer;
    }

    // ---- the best, the cuts

    public int best(int x, int y, int wide, int high) {
        if (!now.setup.hasPiece(x, y, wide, high)) {
            return NONE;
        }
        return freshCuts().worths.at(x, y, wide, high);
    }

    public int is(int x, int y, int wide, int high) {
        if (!now.setup.hasPiece(x, y, wide, high)) {
            return NONE;
        }
        return now.setup.leastPart(x, y, wide, high, 1);
    }

    public int told(int what) {
        switch (what) {
            case 0: return now.setup.wide;
            case 1: return now.setup.high;
            case 2: return now.setup.kerf;
            case 3: return now.setup.parts;
            case 4: return Long.bitCount(now.setup.defects);
            case 5: return freshCuts().worths.ofPlate();
            case 6: return freshCuts().nodes;
            case 7: return freshCuts().partNodes;
            case 8: return freshCuts().cutNodes;
            case 9: return freshCuts().wasted();
            case 10: return freshCuts().deep;
            default: return NONE;
        }
    }

    public int node(int node, int what) {
        return freshCuts().fact(node, what);
    }

    public int picture(int x, int y) {
        if (!now.setup.hasSquare(x, y)) {
            return NONE;
        }
        return freshCuts().partOn(x, y);
    }

    public int staged(int stages, int way) {
        if (stages < 1 || stages > MOST_STAGES || !isOneOfTwo(way)) {
            return BAD;
        }
        trial.copyFrom(now.setup);
        Worths worths = trialCuts.worths;
        worths.layParts();
        // What the last stage can give has to stand before the stage ahead of it builds on it.
        for (int stage = stages - 1; stage >= 0; stage--) {
            worths.cutAll(waysOnly((way + stage) & 1));
        }
        return worths.ofPlate();
    }

    public int sizes(int side) {
        if (!isOneOfTwo(side)) {
            return NONE;
        }
        int most = side == 0 ? now.setup.wide : now.setup.high;
        int lengths = now.setup.lengths(side);
        int bits = 1;
        for (int size = 1; size <= most; size++) {
            if (isSum(size, lengths, bits)) {
                bits |= 1 << size;
            }
        }
        return bits;
    }

    public long more(int side) {
        if (!isOneOfTwo(side)) {
            return NO;
        }
        trial.copyFrom(now.setup);
        if (side == 0) {
            trial.wide++;
        } else {
            trial.high++;
        }
        if (trial.wide > MOST_SIDE || trial.high > MOST_SIDE) {
            return NO;
        }
        trialCuts.worths.layParts();
        trialCuts.worths.cutAll(BOTH_WAYS);
        return trialCuts.worths.ofPlate() - freshCuts().worths.ofPlate();
    }

    public long bound(int part) {
        if (!isOneOfTwo(part) || now.setup.parts < 1) {
            return NO;
        }
        long worth = 0L;
        long squares = 1L;
        for (int i = 0; i < now.setup.parts; i++) {
            long itsWorth = now.setup.fact(i, PART_WORTH);
            long itsSquares = (long) now.setup.fact(i, PART_WIDE) * now.setup.fact(i, PART_HIGH);
            if (itsWorth * squares > worth * itsSquares) {
                worth = itsWorth;
                squares = itsSquares;
            }
        }
        return lowest(worth * now.setup.wide * now.setup.high, squares, part);
    }

    // ---- seen, odds

    public int see(int part, int n) {
        return tellUse(now.seen, part, n);
    }

    public int fits(int part, int what) {
        if (!now.setup.has(part) || !isOneOfTwo(what)) {
            return NONE;
        }
        int fitting = 0;
        int least = WITHOUT;
        for (int worth = 1; worth <= FITTING_WORTHS; worth++) {
            tryWorth(part, worth);
            if (trialCuts.firstOtherwise(now.seen) == WITHOUT) {
                least = fitting == 0 ? worth : least;
                fitting++;
            }
        }
        return what == 0 ? fitting : least;
    }

    public long odds(int part, int line) {
        if (!now.setup.has(part) || !isOneOfTwo(line)) {
            return NO;
        }
        int useful = 0;
        for (int worth = 1; worth <= LIKELY_WORTHS; worth++) {
            tryWorth(part, worth);
            if (trialCuts.timesUsed(part) > 0) {
                useful++;
            }
        }
        return lowest(useful, LIKELY_WORTHS, line);
    }

    public long mean(int line) {
        if (!isOneOfTwo(line) || freshCuts().partNodes < 1) {
            return NO;
        }
        return lowest(freshCuts().worths.ofPlate(), freshCuts().partNodes, line);
    }

    // ---- events, books

    public int event(int what, int n) {
        if (what == -1) {
            now.events.length = 0;
            return 0;
        }
        if (!isEvent(what, n)) {
            return NONE;
        }
        if (what == KERF_EVENT && (n < 0 || n > MOST_KERF)) {
            return BAD;
        }
        return now.events.append(what, n) ? now.events.length : FULL;
    }

    public int after(int what) {
        if (what < 0 || what > 2) {
            return NONE;
        }
        trial.copyFrom(now.setup);
        for (int row = 0; row < now.events.length; row++) {
            trial.befall(now.events.first(row), now.events.second(row));
        }
        trialCuts.reckon();
        if (what == 0) {
            return trialCuts.worths.ofPlate();
        }
        return what == 1 ? trialCuts.wasted() : trialCuts.cutNodes;
    }

    public int book(int part, int n) {
        return tellUse(now.book, part, n);
    }

    public int looked() {
        return freshCuts().firstOtherwise(now.book);
    }

    // ---- judging, the image, tapes

    public int judge(int tape, int i) {
        if (!isTape(tape)) {
            return NONE;
        }
        Tape row = tapes[tape];
        if (row.sort != HOLDS_NOTHING && row.sort != LONGS) {
            return CAST;
        }
        Cuts due = freshCuts();
        for (int node = 0; node < due.nodes; node++) {
            // i alone first: a place near the greatest int must not wrap around
            if (!row.hasPlace(i) || !row.hasPlace(i + node)) {
                return 100 + node;
            }
            if (row.items[i + node] != due.telling(node)) {
                return node;
            }
        }
        return WITHOUT;
    }

    public int image() {
        image.copyFrom(now);
        hasImage = true;
        return now.setup.parts;
    }

    public int undo() {
        if (!hasImage) {
            return STATE;
        }
        now.copyFrom(image);
        cutsAreFresh = false;
        return now.setup.parts;
    }

    public int count(int what) {
        switch (what) {
            case 0: return now.seen.length;
            case 1: return now.events.length;
            case 2: return now.book.length;
            case 3: return text.length;
            default: return BAD;
        }
    }

    public int tape(int tape, int sort, int n) {
        if (!isTape(tape)) {
            return NONE;
        }
        if (sort == HOLDS_NOTHING) {
            tapes[tape].become(HOLDS_NOTHING, 0);
            return 1;
        }
        if (sort < BYTES || sort > BOOLEANS || n > MOST_ITEMS) {
            return BAD;
        }
        if (n < 0) {
            return SIZE;
        }
        tapes[tape].become(sort, n);
        return 1;
    }

    public int item(int tape, int i, long v) {
        if (!isTape(tape)) {
            return NONE;
        }
        Tape row = tapes[tape];
        if (row.sort == HOLDS_NOTHING) {
            return NOTHING;
        }
        if (!row.hasPlace(i)) {
            return PLACE;
        }
        row.items[i] = row.asItem(v);
        return 1;
    }

    public long peek(int tape, int i) {
        if (!isTape(tape) || !tapes[tape].hasPlace(i)) {
            return NO;
        }
        return tapes[tape].items[i];
    }

    public int shift(int tape, int i, int other, int j, int n) {
        if (!isTape(tape) || !isTape(other)) {
            return NONE;
        }
        Tape from = tapes[tape];
        Tape to = tapes[other];
        if (from.sort == HOLDS_NOTHING || to.sort == HOLDS_NOTHING) {
            return NOTHING;
        }
        if (from.sort != to.sort) {
            return CAST;
        }
        if (!from.hasRange(i, n) || !to.hasRange(j, n)) {
            return PLACE;
        }
        System.arraycopy(from.items, i, to.items, j, n);
        return n;
    }

    // ---- what several calls share

    private static boolean isSide(int v) {
        return v >= 1 && v <= MOST_SIDE;
    }

    private static boolean isWorth(int v) {
        return v >= 1 && v <= MOST_WORTH;
    }

    private static boolean isOneOfTwo(int v) {
        return v == 0 || v == 1;
    }

    private static boolean isTape(int tape) {
        return tape >= 0 && tape < MOST_TAPES;
    }

    private static int waysOnly(int way) {
        return 1 << way;
    }

    /**
     * The squares of a piece as bits, 7 to a row whatever the plate is, so that a plate that grows or
     * shrinks leaves each square its bit. The piece is within 7 by 7.
     */
    private static long squares(int x, int y, int wide, int high) {
        long aBitForEachRow = ((1L << (MOST_SIDE * high)) - 1L) / ((1L << MOST_SIDE) - 1L);
        return (((1L << wide) - 1L) * aBitForEachRow) << (MOST_SIDE * y + x);
    }

    /** What is above (line 0) or below (1) the line of a fraction in lowest terms; below it is more than 0. */
    private static long lowest(long above, long below, int line) {
        long divisor = below;
        long rest = above;
        for (int step = 0; step < MOST_STEPS && rest != 0L; step++) {
            long next = divisor % rest;
            divisor = rest;
            rest = next;
        }
        long shown = line == 0 ? above : below;
        return divisor < 1L ? shown : shown / divisor;
    }

    /** Whether a size is one of the lengths, or a sum that stands, the kerf, and one of the lengths. */
    private boolean isSum(int size, int lengths, int sums) {
        for (int length = 1; length <= size; length++) {
            if ((lengths >> length & 1) == 0) {
                continue;
            }
            int ahead = size - length - now.setup.kerf;
            if (length == size || ahead > 0 && (sums >> ahead & 1) == 1) {
                return true;
            }
        }
        return false;
    }

    private Cuts freshCuts() {
        if (!cutsAreFresh) {
            cuts.reckon();
            cutsAreFresh = true;
        }
        return cuts;
    }

    private int rewrite(int part, int what, int v) {
        int was = now.setup.fact(part, what);
        now.setup.write(part, what, v);
        cutsAreFresh = false;
        return was;
    }

    private void tryWorth(int part, int worth) {
        trial.copyFrom(now.setup);
        trial.write(part, PART_WORTH, worth);
        trialCuts.reckon();
    }

    private int tellUse(Rows rows, int part, int n) {
        if (part == -1) {
            rows.length = 0;
            return 0;
        }
        if (!now.setup.has(part)) {
            return NONE;
        }
        if (n < 0 || n > MOST_TIMES) {
            return BAD;
        }
        return rows.append(part, n) ? rows.length : FULL;
    }

    private boolean isEvent(int what, int n) {
        switch (what) {
            case KERF_EVENT: return true;
            case DEFECT_EVENT: return n >= 0 && now.setup.hasSquare(n / 10, n % 10);
            case TURN_EVENT: return now.setup.has(n);
            case CHEAP_EVENT: return now.setup.has(n);
            default: return false;
        }
    }

    /** The text is without fault here. */
    private int doClauses() {
        int done = 0;
        int at = 0;
        for (int clause = 0; clause < MOST_CLAUSES && at < text.length; clause++) {
            if (doClause(at) >= 0) {
                done++;
            }
            at = text.clauseBehind(at);
        }
        return done;
    }

    /** What the call that the clause stands for answers. */
    private int doClause(int at) {
        int first = text.digit(at + 1);
        int second = text.digit(at + 2);
        switch (text.sign(at)) {
            case 's': return plate(first, second);
            case 'k': return kerf(first);
            case 'p': return part(first, second, text.worth(at + 3), false);
            case 't': return part(first, second, text.worth(at + 3), true);
            case 'd': return defect(first, second);
            default: return BAD;
        }
    }

    // ---- classes of its own

    /** The plate, the kerf, the parts and the defects. */
    private static final class Setup {
        int wide = 4;
        int high = 4;
        int kerf;
        int parts;
        long defects;
        final int[] facts = new int[MOST_PARTS * PART_FACTS];

        void copyFrom(Setup other) {
            wide = other.wide;
            high = other.high;
            kerf = other.kerf;
            parts = other.parts;
            defects = other.defects;
            System.arraycopy(other.facts, 0, facts, 0, facts.length);
        }

        boolean has(int part) {
            return part >= 0 && part < parts;
        }

        int fact(int part, int what) {
            if (part < 0 || part >= parts || what < 0 || what >= PART_FACTS) {
                return NONE;
            }
            return facts[part * PART_FACTS + what];
        }

        void write(int part, int what, int v) {
            if (part >= 0 && part < parts && what >= 0 && what < PART_FACTS) {
                facts[part * PART_FACTS + what] = v;
            }
        }

        boolean hasSquare(int x, int y) {
            return x >= 0 && x < wide && y >= 0 && y < high;
        }

        boolean hasPiece(int x, int y, int itsWide, int itsHigh) {
            return itsWide >= 1 && itsWide <= wide && x >= 0 && x <= wide - itsWide
                && itsHigh >= 1 && itsHigh <= high && y >= 0 && y <= high - itsHigh;
        }

        boolean isSound(int x, int y, int itsWide, int itsHigh) {
            return defects == 0L || (defects & squares(x, y, itsWide, itsHigh)) == 0L;
        }

        boolean isOfSize(int part, int itsWide, int itsHigh) {
            int partWide = fact(part, PART_WIDE);
            int partHigh = fact(part, PART_HIGH);
            return partWide == itsWide && partHigh == itsHigh
                || fact(part, PART_TURNS) == 1 && partWide == itsHigh && partHigh == itsWide;
        }

        /** The least part of such a worth or more that the piece is. */
        int leastPart(int x, int y, int itsWide, int itsHigh, int leastWorth) {
            if (!isSound(x, y, itsWide, itsHigh)) {
                return WITHOUT;
            }
            for (int part = 0; part < parts; part++) {
                if (fact(part, PART_WORTH) >= leastWorth && isOfSize(part, itsWide, itsHigh)) {
                    return part;
                }
            }
            return WITHOUT;
        }

        /** The greatest worth of the parts that a piece of this size is, if it is sound. */
        int greatestWorth(int itsWide, int itsHigh) {
            int greatest = 0;
            for (int part = 0; part < parts; part++) {
                if (isOfSize(part, itsWide, itsHigh)) {
                    greatest = Math.max(greatest, fact(part, PART_WORTH));
                }
            }
            return greatest;
        }

        /** The parts' sides of that direction as bits. */
        int lengths(int side) {
            int bits = 0;
            for (int part = 0; part < parts; part++) {
                if (side == 0 || fact(part, PART_TURNS) == 1) {
                    bits |= 1 << fact(part, PART_WIDE);
                }
                if (side == 1 || fact(part, PART_TURNS) == 1) {
                    bits |= 1 << fact(part, PART_HIGH);
                }
            }
            return bits;
        }

        void befall(int what, int n) {
            switch (what) {
                case KERF_EVENT:
                    kerf = n;
                    break;
                case DEFECT_EVENT:
                    // the plate may have become smaller since: no piece has such a square then
                    defects |= squares(n / 10, n % 10, 1, 1);
                    break;
                case TURN_EVENT:
                    write(n, PART_TURNS, 1 - fact(n, PART_TURNS));
                    break;
                case CHEAP_EVENT:
                    write(n, PART_WORTH, 1);
                    break;
                default:
                    break;
            }
        }
    }

    /** For each piece of a set-up what the cuts that were allowed so far can give. */
    private static final class Worths {
        /** Spans of one length stand together, by their start: here begin those of each length. */
        private static final int[] FIRST_SPAN = {0, 0, 7, 13, 18, 22, 25, 27};
        private static final int SPANS = 28;
        private static final int UNKNOWN = -1;

        final Setup setup;
        final int[] table = new int[SPANS * SPANS];

        Worths(Setup setup) {
            this.setup = setup;
        }

        /** 0 where there is no piece: nothing can be cut from what is not there. */
        int at(int x, int y, int wide, int high) {
            if (x < 0 || y < 0 || wide < 1 || high < 1 || x > MOST_SIDE - wide || y > MOST_SIDE - high) {
                return 0;
            }
            return table[(FIRST_SPAN[wide] + x) * SPANS + FIRST_SPAN[high] + y];
        }

        private void put(int x, int y, int wide, int high, int worth) {
            if (x < 0 || y < 0 || wide < 1 || high < 1 || x > MOST_SIDE - wide || y > MOST_SIDE - high) {
                return;
            }
            table[(FIRST_SPAN[wide] + x) * SPANS + FIRST_SPAN[high] + y] = worth;
        }

        int ofPlate() {
            return at(0, 0, setup.wide, setup.high);
        }

        /** Without any cut: the parts that the pieces are. */
        void layParts() {
            for (int high = 1; high <= setup.high; high++) {
                for (int wide = 1; wide <= setup.wide; wide++) {
                    layPartsOfSize(wide, high);
                }
            }
        }

        private void layPartsOfSize(int wide, int high) {
            int worth = setup.greatestWorth(wide, high);
            for (int y = 0; y <= setup.high - high; y++) {
                for (int x = 0; x <= setup.wide - wide; x++) {
                    put(x, y, wide, high, setup.isSound(x, y, wide, high) ? worth : 0);
                }
            }
        }

        /** All cuts of these ways (bits), smaller pieces first, as the greater ones are cut into them: BEST, if both. */
        void cutAll(int ways) {
            for (int high = 1; high <= setup.high; high++) {
                for (int wide = 1; wide <= setup.wide; wide++) {
                    cutAllOfSize(wide, high, ways);
                }
            }
        }

        private void cutAllOfSize(int wide, int high, int ways) {
            // Pieces without a defect are worth alike wherever they lie: only the first is reckoned.
            int soundWorth = UNKNOWN;
            for (int y = 0; y <= setup.high - high; y++) {
                for (int x = 0; x <= setup.wide - wide; x++) {
                    boolean sound = setup.isSound(x, y, wide, high);
                    int worth = sound && soundWorth != UNKNOWN ? soundWorth : cutOrNot(x, y, wide, high, ways);
                    if (sound) {
                        soundWorth = worth;
                    }
                    put(x, y, wide, high, worth);
                }
            }
        }

        private int cutOrNot(int x, int y, int wide, int high, int ways) {
            int greatest = at(x, y, wide, high);
            if ((ways & waysOnly(UPRIGHT)) != 0) {
                for (int k = 1; k < wide; k++) {
                    greatest = Math.max(greatest, together(x, y, wide, high, UPRIGHT, k));
                }
            }
            if ((ways & waysOnly(LEVEL)) != 0) {
                for (int k = 1; k < high; k++) {
                    greatest = Math.max(greatest, together(x, y, wide, high, LEVEL, k));
                }
            }
            return greatest;
        }

        /** What both pieces that a cut leaves are worth. */
        private int together(int x, int y, int wide, int high, int way, int k) {
            int gone = k + setup.kerf;
            if (way == UPRIGHT) {
                return at(x, y, k, high) + at(x + gone, y, wide - gone, high);
            }
            return at(x, y, wide, k) + at(x, y + gone, wide, high - gone);
        }

        /** The least k where a cut that way leaves all that the piece is worth; 0: there is none. */
        int leastCut(int x, int y, int wide, int high, int way) {
            int worth = at(x, y, wide, high);
            int side = way == UPRIGHT ? wide : high;
            for (int k = 1; k < side; k++) {
                if (together(x, y, wide, high, way, k) == worth) {
                    return k;
                }
            }
            return 0;
        }
    }

    /** THE CUTS of a set-up, as they were when they were last reckoned. */
    private static final class Cuts {
        final Setup setup;
        final Worths worths;
        final int[] facts = new int[MOST_NODES * NODE_FACTS];
        final int[] used = new int[MOST_PARTS];
        int nodes;
        int partNodes;
        int cutNodes;
        int deep;
        int squaresInParts;

        Cuts(Setup setup) {
            this.setup = setup;
            this.worths = new Worths(setup);
        }

        void reckon() {
            worths.layParts();
            worths.cutAll(BOTH_WAYS);
            Arrays.fill(used, 0);
            nodes = 0;
            partNodes = 0;
            cutNodes = 0;
            deep = 0;
            squaresInParts = 0;
            grow(this, 0, 0, setup.wide, setup.high, WITHOUT, 0);
        }

        /** A piece becomes the next node, with all that comes of it behind it; depth tells how many cuts are above it. */
        private static void grow(Cuts tree, int x, int y, int wide, int high, int from, int depth) {
            if (wide < 1 || high < 1 || depth > MOST_DEEP || tree.nodes >= MOST_NODES) {
                return;
            }
            int node = tree.nodes;
            tree.nodes = node + 1;
            tree.write(node, NODE_X, x);
            tree.write(node, NODE_Y, y);
            tree.write(node, NODE_WIDE, wide);
            tree.write(node, NODE_HIGH, high);
            tree.write(node, NODE_FROM, from);
            tree.write(node, NODE_BEST, tree.worths.at(x, y, wide, high));
            tree.settle(node);
            if (tree.fact(node, NODE_KIND) < CUT) {
                return;
            }
            tree.cutNodes++;
            tree.deep = Math.max(tree.deep, depth + 1);
            int k = tree.fact(node, NODE_NUMBER);
            int gone = k + tree.setup.kerf;
            if (tree.fact(node, NODE_KIND) == CUT + UPRIGHT) {
                grow(tree, x, y, k, high, node, depth + 1);
                grow(tree, x + gone, y, wide - gone, high, node, depth + 1);
            } else {
                grow(tree, x, y, wide, k, node, depth + 1);
                grow(tree, x, y + gone, wide, high - gone, node, depth + 1);
            }
        }

        /** What kind of node it is, and its number. */
        private void settle(int node) {
            int x = fact(node, NODE_X);
            int y = fact(node, NODE_Y);
            int wide = fact(node, NODE_WIDE);
            int high = fact(node, NODE_HIGH);
            int best = fact(node, NODE_BEST);
            if (best == 0) {
                name(node, WASTE, WITHOUT);
                return;
            }
            // no part that it is has more than its best: this much or more is just as much
            int part = setup.leastPart(x, y, wide, high, best);
            if (part >= 0) {
                name(node, PART, part);
                partNodes++;
                squaresInParts += wide * high;
                if (part < used.length) {
                    used[part]++;
                }
                return;
            }
            int k = worths.leastCut(x, y, wide, high, UPRIGHT);
            if (k > 0) {
                name(node, CUT + UPRIGHT, k);
            } else {
                name(node, CUT + LEVEL, worths.leastCut(x, y, wide, high, LEVEL));
            }
        }

        private void name(int node, int kind, int number) {
            write(node, NODE_KIND, kind);
            write(node, NODE_NUMBER, number);
        }

        private void write(int node, int what, int v) {
            if (node >= 0 && node < nodes && what >= 0 && what < NODE_FACTS) {
                facts[node * NODE_FACTS + what] = v;
            }
        }

        int fact(int node, int what) {
            if (node < 0 || node >= nodes || what < 0 || what >= NODE_FACTS) {
                return NONE;
            }
            return facts[node * NODE_FACTS + what];
        }

        int timesUsed(int part) {
            return part >= 0 && part < used.length ? used[part] : 0;
        }

        int wasted() {
            return setup.wide * setup.high - squaresInParts;
        }

        int partOn(int x, int y) {
            for (int node = 0; node < nodes; node++) {
                int right = x - fact(node, NODE_X);
                int down = y - fact(node, NODE_Y);
                if (fact(node, NODE_KIND) == PART && right >= 0 && right < fact(node, NODE_WIDE)
                    && down >= 0 && down < fact(node, NODE_HIGH)) {
                    return fact(node, NODE_NUMBER);
                }
            }
            return WITHOUT;
        }

        /** A node as a tape tells it. */
        long telling(int node) {
            int kind = fact(node, NODE_KIND);
            return kind == WASTE ? 0L : 100L * kind + fact(node, NODE_NUMBER);
        }

        /** The first of these rows (a part, how many) that is used otherwise. */
        int firstOtherwise(Rows rows) {
            for (int row = 0; row < rows.length; row++) {
                if (timesUsed(rows.first(row)) != rows.second(row)) {
                    return row;
                }
            }
            return WITHOUT;
        }
    }

    /** Rows of two numbers each, told by hand, no more than there is room for. */
    private static final class Rows {
        final int[] pairs;
        int length;

        Rows(int most) {
            pairs = new int[2 * Math.max(most, 0)];
        }

        boolean append(int first, int second) {
            int at = 2 * length;
            if (at < 0 || at + 1 >= pairs.length) {
                return false;
            }
            pairs[at] = first;
            pairs[at + 1] = second;
            length++;
            return true;
        }

        int first(int row) {
            return row >= 0 && row < length ? pairs[2 * row] : NONE;
        }

        int second(int row) {
            return row >= 0 && row < length ? pairs[2 * row + 1] : NONE;
        }

        /** The other has room for just as many. */
        void copyFrom(Rows other) {
            length = other.length;
            System.arraycopy(other.pairs, 0, pairs, 0, Math.min(pairs.length, other.pairs.length));
        }
    }

    /** All that an image holds. */
    private static final class State {
        final Setup setup = new Setup();
        final Rows seen = new Rows(MOST_SEEN);
        final Rows events = new Rows(MOST_EVENTS);
        final Rows book = new Rows(MOST_BOOKED);

        void copyFrom(State other) {
            setup.copyFrom(other.setup);
            seen.copyFrom(other.seen);
            events.copyFrom(other.events);
            book.copyFrom(other.book);
        }
    }

    /** THE TEXT, and how its clauses are written. */
    private static final class Text {
        private static final int END = -1;
        private static final int NO_FAULT = -1;

        final byte[] bytes = new byte[MOST_BYTES];
        int length;

        boolean append(int sign) {
            if (length < 0 || length >= bytes.length) {
                return false;
            }
            bytes[length] = (byte) sign;
            length++;
            return true;
        }

        int sign(int at) {
            return at >= 0 && at < length && at < bytes.length ? bytes[at] : END;
        }

        boolean isDigit(int at) {
            return sign(at) >= '0' && sign(at) <= '9';
        }

        int digit(int at) {
            return sign(at) - '0';
        }

        int worth(int at) {
            return isDigit(at + 1) ? 10 * digit(at) + digit(at + 1) : digit(at);
        }

        /** How many digits must stand behind such a sign; 0: no clause begins with it. */
        private static int digitsDue(int sign) {
            switch (sign) {
                case 's': return 2;
                case 'k': return 1;
                case 'p': return 3;
                case 't': return 3;
                case 'd': return 2;
                default: return 0;
            }
        }

        int firstFault() {
            int at = 0;
            for (int clause = 1; clause <= MOST_CLAUSES; clause++) {
                int due = digitsDue(sign(at));
                if (due == 0) {
                    return at;
                }
                at++;
                for (int digit = 0; digit < due; digit++) {
                    if (!isDigit(at)) {
                        return at;
                    }
                    at++;
                }
                // only a worth, which is behind two sides, may have a digit more
                if (due == 3 && isDigit(at)) {
                    at++;
                }
                if (at >= length) {
                    return NO_FAULT;
                }
                if (sign(at) != ';' || clause == MOST_CLAUSES) {
                    return at;
                }
                at++;
            }
            return at;
        }

        /** Where the next clause begins, or the end. */
        int clauseBehind(int at) {
            for (int place = Math.max(at, 0); place < length; place++) {
                if (sign(place) == ';') {
                    return place + 1;
                }
            }
            return length;
        }
    }

    /** A row of one sort. Its items are kept as longs, each as the sort's item would be. */
    private static final class Tape {
        final long[] items = new long[MOST_ITEMS];
        int sort = HOLDS_NOTHING;
        int length;

        void become(int newSort, int newLength) {
            sort = newSort;
            length = newLength;
            Arrays.fill(items, 0L);
        }

        boolean hasPlace(int i) {
            return i >= 0 && i < length && i < items.length;
        }

        boolean hasRange(int i, int n) {
            return i >= 0 && n >= 0 && n <= length && i <= length - n && length <= items.length;
        }

        long asItem(long v) {
            switch (sort) {
                case BYTES: return (byte) v;
                case SHORTS: return (short) v;
                case INTS: return (int) v;
                case BOOLEANS: return v != 0L ? 1L : 0L;
                default: return v;
            }
        }
    }
}
