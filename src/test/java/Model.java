import java.util.ArrayList;
import java.util.HashMap;
import java.util.List;
import java.util.Map;
import java.util.Set;
import java.util.TreeSet;
import java.util.regex.Pattern;

/**
 * The document once more, written as plainly as its words with the whole Java library: slow, without
 * tables of its own, by recursion on the words. ModelTest holds the program against it.
 */
final class Model {
    static final int NONE = -1, BAD = -2, STATE = -3, FULL = -4;
    static final long NO = Long.MIN_VALUE;

    record Part(int wide, int high, int worth, boolean turns) { }

    record Piece(int x, int y, int wide, int high) { }

    record Row(int first, int second) { }

    record Node(int kind, Piece piece, int number, int from, int best, int cutsAbove) { }

    record Held(int sort, long[] items) { }

    /** The plate, kerf, parts and defects; BESTS are remembered for this one alone. */
    record Setup(int wide, int high, int kerf, List<Part> parts, Set<Integer> defects, Map<Piece, Integer> known) {
        static Setup of(int wide, int high, int kerf, List<Part> parts, Set<Integer> defects) {
            return new Setup(wide, high, kerf, List.copyOf(parts), Set.copyOf(defects), new HashMap<>());
        }

        Setup withPart(int number, Part part) {
            List<Part> changed = new ArrayList<>(parts);
            changed.set(number, part);
            return of(wide, high, kerf, changed, defects);
        }

        Setup withWorth(int number, int worth) {
            Part was = parts.get(number);
            return withPart(number, new Part(was.wide, was.high, worth, was.turns));
        }

        Setup withDefect(int square) {
            Set<Integer> more = new TreeSet<>(defects);
            more.add(square);
            return of(wide, high, kerf, parts, more);
        }

        boolean hasSquare(int x, int y) {
            return 0 <= x && x < wide && 0 <= y && y < high;
        }

        boolean hasPiece(int x, int y, int itsWide, int itsHigh) {
            return itsWide >= 1 && itsHigh >= 1 && x >= 0 && y >= 0
                && (long) x + itsWide <= wide && (long) y + itsHigh <= high;
        }

        boolean isPart(Piece piece, Part part) {
            for (int x = piece.x; x < piece.x + piece.wide; x++) {
                for (int y = piece.y; y < piece.y + piece.high; y++) {
                    if (defects.contains(10 * x + y)) {
                        return false;
                    }
                }
            }
            boolean asItIs = piece.wide == part.wide && piece.high == part.high;
            boolean turned = piece.wide == part.high && piece.high == part.wide;
            return asItIs || part.turns && turned;
        }

        /** The pieces that the cut leaves, one or two. */
        List<Piece> cut(Piece p, int way, int k) {
            List<Piece> left = new ArrayList<>();
            if (way == 0) {
                left.add(new Piece(p.x, p.y, k, p.high));
                int rest = p.wide - k - kerf;
                if (rest > 0) {
                    left.add(new Piece(p.x + k + kerf, p.y, rest, p.high));
                }
            } else {
                left.add(new Piece(p.x, p.y, p.wide, k));
                int rest = p.high - k - kerf;
                if (rest > 0) {
                    left.add(new Piece(p.x, p.y + k + kerf, p.wide, rest));
                }
            }
            return left;
        }

        int mostK(Piece p, int way) {
            return way == 0 ? p.wide - 1 : p.high - 1;
        }

        int bests(List<Piece> pieces) {
            int sum = 0;
            for (Piece p : pieces) {
                sum += best(p);
            }
            return sum;
        }

        int best(Piece p) {
            Integer remembered = known.get(p);
            if (remembered != null) {
                return remembered;
            }
            int best = 0;
            for (Part part : parts) {
                if (isPart(p, part)) {
                    best = Math.max(best, part.worth);
                }
            }
            for (int way = 0; way < 2; way++) {
                for (int k = 1; k <= mostK(p, way); k++) {
                    best = Math.max(best, bests(cut(p, way, k)));
                }
            }
            known.put(p, best);
            return best;
        }

        int best() {
            return best(whole());
        }

        Piece whole() {
            return new Piece(0, 0, wide, high);
        }

        List<Node> cuts() {
            List<Node> nodes = new ArrayList<>();
            addNodes(nodes, whole(), -5, 0);
            return nodes;
        }

        private void addNodes(List<Node> nodes, Piece p, int from, int above) {
            int best = best(p);
            if (best == 0) {
                nodes.add(new Node(0, p, -5, from, best, above));
                return;
            }
            for (int i = 0; i < parts.size(); i++) {
                if (isPart(p, parts.get(i)) && parts.get(i).worth == best) {
                    nodes.add(new Node(1, p, i, from, best, above));
                    return;
                }
            }
            for (int way = 0; way < 2; way++) {
                for (int k = 1; k <= mostK(p, way); k++) {
                    List<Piece> left = cut(p, way, k);
                    if (bests(left) == best) {
                        int number = nodes.size();
                        nodes.add(new Node(2 + way, p, k, from, best, above));
                        for (Piece piece : left) {
                            addNodes(nodes, piece, number, above + 1);
                        }
                        return;
                    }
                }
            }
            throw new IllegalStateException("a best without a cut");
        }

        int staged(Piece p, int stages, int way, Map<List<Object>, Integer> done) {
            List<Object> key = List.of(p, stages, way);
            if (done.containsKey(key)) {
                return done.get(key);
            }
            int best = 0;
            if (stages == 0) {
                for (Part part : parts) {
                    if (isPart(p, part)) {
                        best = Math.max(best, part.worth);
                    }
                }
            } else {
                best = staged(p, stages - 1, 1 - way, done);
                for (int k = 1; k <= mostK(p, way); k++) {
                    int sum = 0;
                    for (Piece piece : cut(p, way, k)) {
                        sum += staged(piece, stages, way, done);
                    }
                    best = Math.max(best, sum);
                }
            }
            done.put(key, best);
            return best;
        }
    }

    private static final String CLAUSE = "(s\\d\\d|k\\d|[pt]\\d\\d\\d\\d?|d\\d\\d)";
    private static final Pattern SET_UP = Pattern.compile(CLAUSE + "(;" + CLAUSE + "){0,11}");
    /** Whatever begins a set-up becomes one with one of these behind it. */
    private static final List<String> ENDINGS = List.of("", "1", "11", "111", "k1");

    Setup setup = Setup.of(4, 4, 0, List.of(), Set.of());
    List<Row> seen = new ArrayList<>();
    List<Row> events = new ArrayList<>();
    List<Row> book = new ArrayList<>();
    private Setup imageSetup;
    private List<Row> imageSeen;
    private List<Row> imageEvents;
    private List<Row> imageBook;
    private String text = "";
    private final Held[] tapes = new Held[6];

    private static boolean within(int v, int least, int most) {
        return least <= v && v <= most;
    }

    private boolean isPartNumber(int part) {
        return within(part, 0, setup.parts.size() - 1);
    }

    int plate(int wide, int high) {
        if (!within(wide, 1, 7) || !within(high, 1, 7)) {
            return BAD;
        }
        setup = Setup.of(wide, high, setup.kerf, setup.parts, Set.of());
        return wide * high;
    }

    int kerf(int kerf) {
        if (!within(kerf, 0, 2)) {
            return BAD;
        }
        int was = setup.kerf;
        setup = Setup.of(setup.wide, setup.high, kerf, setup.parts, setup.defects);
        return was;
    }

    int part(int wide, int high, int worth, boolean mayTurn) {
        if (!within(wide, 1, 7) || !within(high, 1, 7) || !within(worth, 1, 99)) {
            return BAD;
        }
        if (setup.parts.size() == 5) {
            return FULL;
        }
        List<Part> more = new ArrayList<>(setup.parts);
        more.add(new Part(wide, high, worth, mayTurn));
        setup = Setup.of(setup.wide, setup.high, setup.kerf, more, setup.defects);
        return more.size() - 1;
    }

    int renew(int part, int what, int v) {
        if (!isPartNumber(part) || !within(what, 0, 2)) {
            return NONE;
        }
        if (!within(v, 1, what == 2 ? 99 : 7)) {
            return BAD;
        }
        Part p = setup.parts.get(part);
        int was = what == 0 ? p.wide : what == 1 ? p.high : p.worth;
        setup = setup.withPart(part, new Part(what == 0 ? v : p.wide, what == 1 ? v : p.high,
            what == 2 ? v : p.worth, p.turns));
        return was;
    }

    int turn(int part, boolean mayTurn) {
        if (!isPartNumber(part)) {
            return NONE;
        }
        Part p = setup.parts.get(part);
        setup = setup.withPart(part, new Part(p.wide, p.high, p.worth, mayTurn));
        return p.turns ? 1 : 0;
    }

    int of(int part, int what) {
        if (!isPartNumber(part) || !within(what, 0, 4)) {
            return NONE;
        }
        Part p = setup.parts.get(part);
        return List.of(p.wide, p.high, p.worth, p.turns ? 1 : 0, used(setup, part)).get(what);
    }

    private static int used(Setup by, int part) {
        int times = 0;
        for (Node node : by.cuts()) {
            if (node.kind == 1 && node.number == part) {
                times++;
            }
        }
        return times;
    }

    private static int wasted(Setup by) {
        int squares = 0;
        for (int x = 0; x < by.wide; x++) {
            for (int y = 0; y < by.high; y++) {
                if (partOn(by, x, y) == -5) {
                    squares++;
                }
            }
        }
        return squares;
    }

    private static int partOn(Setup by, int x, int y) {
        for (Node node : by.cuts()) {
            Piece p = node.piece;
            if (node.kind == 1 && within(x, p.x, p.x + p.wide - 1) && within(y, p.y, p.y + p.high - 1)) {
                return node.number;
            }
        }
        return -5;
    }

    private static int ofKind(Setup by, int least, int most) {
        int number = 0;
        for (Node node : by.cuts()) {
            if (within(node.kind, least, most)) {
                number++;
            }
        }
        return number;
    }

    int defect(int x, int y) {
        if (!setup.hasSquare(x, y)) {
            return NONE;
        }
        if (setup.defects.contains(10 * x + y)) {
            return STATE;
        }
        if (setup.defects.size() == 3) {
            return FULL;
        }
        setup = setup.withDefect(10 * x + y);
        return setup.defects.size();
    }

    int mend() {
        int were = setup.defects.size();
        setup = Setup.of(setup.wide, setup.high, setup.kerf, setup.parts, Set.of());
        return were;
    }

    int feed(int sign) {
        if (!within(sign, 0, 127)) {
            return BAD;
        }
        if (text.length() == 100) {
            return FULL;
        }
        text += (char) sign;
        return text.length();
    }

    private static boolean beginsOne(String start) {
        for (String ending : ENDINGS) {
            if (SET_UP.matcher(start + ending).matches()) {
                return true;
            }
        }
        return false;
    }

    int read() {
        String all = text;
        text = "";
        if (!SET_UP.matcher(all).matches()) {
            for (int at = 0; at < all.length(); at++) {
                if (!beginsOne(all.substring(0, at + 1))) {
                    return -10 - at;
                }
            }
            return -10 - all.length();
        }
        int done = 0;
        for (String clause : all.split(";")) {
            int first = clause.charAt(1) - '0';
            int second = clause.length() > 2 ? clause.charAt(2) - '0' : 0;
            int worth = clause.length() > 3 ? Integer.parseInt(clause.substring(3)) : 0;
            int answer = switch (clause.charAt(0)) {
                case 's' -> plate(first, second);
                case 'k' -> kerf(first);
                case 'p' -> part(first, second, worth, false);
                case 't' -> part(first, second, worth, true);
                default -> defect(first, second);
            };
            done += answer >= 0 ? 1 : 0;
        }
        return done;
    }

    int best(int x, int y, int wide, int high) {
        return setup.hasPiece(x, y, wide, high) ? setup.best(new Piece(x, y, wide, high)) : NONE;
    }

    int is(int x, int y, int wide, int high) {
        if (!setup.hasPiece(x, y, wide, high)) {
            return NONE;
        }
        for (int i = 0; i < setup.parts.size(); i++) {
            if (setup.isPart(new Piece(x, y, wide, high), setup.parts.get(i))) {
                return i;
            }
        }
        return -5;
    }

    int told(int what) {
        return switch (what) {
            case 0 -> setup.wide;
            case 1 -> setup.high;
            case 2 -> setup.kerf;
            case 3 -> setup.parts.size();
            case 4 -> setup.defects.size();
            case 5 -> setup.best();
            case 6 -> setup.cuts().size();
            case 7 -> ofKind(setup, 1, 1);
            case 8 -> ofKind(setup, 2, 3);
            case 9 -> wasted(setup);
            case 10 -> deep();
            default -> NONE;
        };
    }

    private int deep() {
        int most = 0;
        for (Node node : setup.cuts()) {
            most = Math.max(most, node.cutsAbove);
        }
        return most;
    }

    int node(int node, int what) {
        List<Node> nodes = setup.cuts();
        if (!within(node, 0, nodes.size() - 1) || !within(what, 0, 7)) {
            return NONE;
        }
        Node n = nodes.get(node);
        return List.of(n.kind, n.piece.x, n.piece.y, n.piece.wide, n.piece.high, n.number, n.from, n.best).get(what);
    }

    int picture(int x, int y) {
        return setup.hasSquare(x, y) ? partOn(setup, x, y) : NONE;
    }

    int staged(int stages, int way) {
        if (!within(stages, 1, 3) || !within(way, 0, 1)) {
            return BAD;
        }
        return setup.staged(setup.whole(), stages, way, new HashMap<>());
    }

    int sizes(int side) {
        if (!within(side, 0, 1)) {
            return NONE;
        }
        int most = side == 0 ? setup.wide : setup.high;
        Set<Integer> sums = new TreeSet<>();
        addSums(sums, 0, most, side);
        int bits = 1;
        for (int sum : sums) {
            bits |= 1 << sum;
        }
        return bits;
    }

    private void addSums(Set<Integer> sums, int before, int most, int side) {
        for (Part p : setup.parts) {
            Set<Integer> lengths = new TreeSet<>();
            lengths.add(side == 0 ? p.wide : p.high);
            if (p.turns) {
                lengths.add(side == 0 ? p.high : p.wide);
            }
            for (int length : lengths) {
                int sum = before + length;
                if (sum <= most && sums.add(sum)) {
                    addSums(sums, sum + setup.kerf, most, side);
                }
            }
        }
    }

    long more(int side) {
        if (!within(side, 0, 1) || (side == 0 ? setup.wide : setup.high) == 7) {
            return NO;
        }
        Setup bigger = Setup.of(setup.wide + (1 - side), setup.high + side, setup.kerf, setup.parts, setup.defects);
        return bigger.best() - setup.best();
    }

    private static long fraction(long above, long below, int line) {
        for (long d = Math.max(above, below); d > 1; d--) {
            if (above % d == 0 && below % d == 0) {
                return (line == 0 ? above : below) / d;
            }
        }
        return line == 0 ? above : below;
    }

    long bound(int part) {
        if (!within(part, 0, 1) || setup.parts.isEmpty()) {
            return NO;
        }
        Part top = setup.parts.get(0);
        for (Part p : setup.parts) {
            if (p.worth * top.wide * top.high > top.worth * p.wide * p.high) {
                top = p;
            }
        }
        return fraction((long) top.worth * setup.wide * setup.high, (long) top.wide * top.high, part);
    }

    private int addUse(List<Row> rows, int most, int part, int n) {
        if (part == -1) {
            rows.clear();
            return 0;
        }
        if (!isPartNumber(part)) {
            return NONE;
        }
        if (!within(n, 0, 49)) {
            return BAD;
        }
        if (rows.size() == most) {
            return FULL;
        }
        rows.add(new Row(part, n));
        return rows.size();
    }

    int see(int part, int n) {
        return addUse(seen, 5, part, n);
    }

    int fits(int part, int what) {
        if (!isPartNumber(part) || !within(what, 0, 1)) {
            return NONE;
        }
        List<Integer> fitting = new ArrayList<>();
        for (int worth = 1; worth <= 20; worth++) {
            if (firstOtherwise(setup.withWorth(part, worth), seen) == -5) {
                fitting.add(worth);
            }
        }
        if (what == 0) {
            return fitting.size();
        }
        return fitting.isEmpty() ? -5 : fitting.get(0);
    }

    private static int firstOtherwise(Setup by, List<Row> rows) {
        for (int i = 0; i < rows.size(); i++) {
            if (used(by, rows.get(i).first) != rows.get(i).second) {
                return i;
            }
        }
        return -5;
    }

    long odds(int part, int line) {
        if (!isPartNumber(part) || !within(line, 0, 1)) {
            return NO;
        }
        int times = 0;
        for (int worth = 1; worth <= 10; worth++) {
            times += used(setup.withWorth(part, worth), part) > 0 ? 1 : 0;
        }
        return fraction(times, 10, line);
    }

    long mean(int line) {
        int parts = told(7);
        if (!within(line, 0, 1) || parts == 0) {
            return NO;
        }
        return fraction(told(5), parts, line);
    }

    int event(int what, int n) {
        if (what == -1) {
            events.clear();
            return 0;
        }
        if (!within(what, 0, 3)) {
            return NONE;
        }
        if (what == 1 && !isSquareNumber(n)) {
            return NONE;
        }
        if (what >= 2 && !isPartNumber(n)) {
            return NONE;
        }
        if (what == 0 && !within(n, 0, 2)) {
            return BAD;
        }
        if (events.size() == 8) {
            return FULL;
        }
        events.add(new Row(what, n));
        return events.size();
    }

    private boolean isSquareNumber(int n) {
        for (int x = 0; x < setup.wide; x++) {
            for (int y = 0; y < setup.high; y++) {
                if (n == 10 * x + y) {
                    return true;
                }
            }
        }
        return false;
    }

    int after(int what) {
        if (!within(what, 0, 2)) {
            return NONE;
        }
        Setup then = setup;
        for (Row row : events) {
            int n = row.second;
            if (row.first == 0) {
                then = Setup.of(then.wide, then.high, n, then.parts, then.defects);
            } else if (row.first == 1) {
                then = then.withDefect(n);
            } else if (row.first == 2) {
                Part p = then.parts.get(n);
                then = then.withPart(n, new Part(p.wide, p.high, p.worth, !p.turns));
            } else {
                then = then.withWorth(n, 1);
            }
        }
        return what == 0 ? then.best() : what == 1 ? wasted(then) : ofKind(then, 2, 3);
    }

    int book(int part, int n) {
        return addUse(book, 8, part, n);
    }

    int looked() {
        return firstOtherwise(setup, book);
    }

    /** The cuts as a tape tells them. */
    long[] telling() {
        List<Node> nodes = setup.cuts();
        long[] told = new long[nodes.size()];
        for (int i = 0; i < told.length; i++) {
            told[i] = nodes.get(i).kind == 0 ? 0 : 100L * nodes.get(i).kind + nodes.get(i).number;
        }
        return told;
    }

    int judge(int tape, int i) {
        if (!within(tape, 0, 5)) {
            return NONE;
        }
        Held held = tapes[tape];
        if (held == null) {
            return 100;
        }
        if (held.sort != 3) {
            return -12;
        }
        long[] due = telling();
        for (int node = 0; node < due.length; node++) {
            long place = (long) i + node;
            if (i < 0 || place >= held.items.length) {
                return 100 + node;
            }
            if (held.items[(int) place] != due[node]) {
                return node;
            }
        }
        return -5;
    }

    int image() {
        imageSetup = setup;
        imageSeen = List.copyOf(seen);
        imageEvents = List.copyOf(events);
        imageBook = List.copyOf(book);
        return setup.parts.size();
    }

    int undo() {
        if (imageSetup == null) {
            return STATE;
        }
        setup = imageSetup;
        seen = new ArrayList<>(imageSeen);
        events = new ArrayList<>(imageEvents);
        book = new ArrayList<>(imageBook);
        return setup.parts.size();
    }

    int count(int what) {
        return switch (what) {
            case 0 -> seen.size();
            case 1 -> events.size();
            case 2 -> book.size();
            case 3 -> text.length();
            default -> BAD;
        };
    }

    int tape(int tape, int sort, int n) {
        if (!within(tape, 0, 5)) {
            return NONE;
        }
        if (!within(sort, -1, 4)) {
            return BAD;
        }
        if (sort == -1) {
            tapes[tape] = null;
            return 1;
        }
        if (n > 60) {
            return BAD;
        }
        if (n < 0) {
            return -14;
        }
        tapes[tape] = new Held(sort, new long[n]);
        return 1;
    }

    int item(int tape, int i, long v) {
        if (!within(tape, 0, 5)) {
            return NONE;
        }
        if (tapes[tape] == null) {
            return -11;
        }
        if (!within(i, 0, tapes[tape].items.length - 1)) {
            return -13;
        }
        tapes[tape].items[i] = switch (tapes[tape].sort) {
            case 0 -> (byte) v;
            case 1 -> (short) v;
            case 2 -> (int) v;
            case 3 -> v;
            default -> v == 0 ? 0 : 1;
        };
        return 1;
    }

    long peek(int tape, int i) {
        if (!within(tape, 0, 5) || tapes[tape] == null || !within(i, 0, tapes[tape].items.length - 1)) {
            return NO;
        }
        return tapes[tape].items[i];
    }

    int shift(int tape, int i, int other, int j, int n) {
        if (!within(tape, 0, 5) || !within(other, 0, 5)) {
            return NONE;
        }
        if (tapes[tape] == null || tapes[other] == null) {
            return -11;
        }
        if (tapes[tape].sort != tapes[other].sort) {
            return -12;
        }
        long[] from = tapes[tape].items;
        long[] to = tapes[other].items;
        if (n < 0 || i < 0 || j < 0 || (long) i + n > from.length || (long) j + n > to.length) {
            return -13;
        }
        long[] before = from.clone();
        for (int k = 0; k < n; k++) {
            to[j + k] = before[i + k];
        }
        return n;
    }
}
