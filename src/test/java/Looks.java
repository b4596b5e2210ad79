import java.util.ArrayList;
import java.util.List;
import java.util.function.Consumer;
import java.util.function.Supplier;

/**
 * Whether two objects are alike in all that their calls can tell. Some things are told only by calls
 * that change (the text by reading it, the image by going back to it), so there are several rounds,
 * each on objects made anew, and each short enough for the 512 calls that an object is used for.
 */
final class Looks {
    /** So many calls may have made an object, and have been tried on it, ahead of a round. */
    static final int MOST_CALLS_AHEAD = 212;
    private static final int MOST_CALLS_OF_A_ROUND = 300;
    private static final List<Consumer<Looks>> ROUNDS = List.of(Looks::plateAndParts, Looks::pieces, Looks::cuts,
        Looks::asked, Looks::tapes, Looks::text, Looks::image, Looks::sorts, Looks::otherWorths, Looks::room);

    private final PlateCuts x;
    private final List<String> told = new ArrayList<>();

    private Looks(PlateCuts x) {
        this.x = x;
    }

    /** The first call that is answered otherwise behind the one calls than behind the others; empty: none is. */
    static String difference(Supplier<PlateCuts> made, Consumer<PlateCuts> calls, Consumer<PlateCuts> others) {
        for (Consumer<Looks> round : ROUNDS) {
            Looks one = new Looks(made.get());
            Looks other = new Looks(made.get());
            calls.accept(one.x);
            others.accept(other.x);
            round.accept(one);
            round.accept(other);
            if (Math.max(one.told.size(), other.told.size()) > MOST_CALLS_OF_A_ROUND) {
                return "a round of " + one.told.size() + " calls is too long";
            }
            for (int i = 0; i < Math.max(one.told.size(), other.told.size()); i++) {
                String here = i < one.told.size() ? one.told.get(i) : "no call";
                String there = i < other.told.size() ? other.told.get(i) : "no call";
                if (!here.equals(there)) {
                    return here + ", else " + there;
                }
            }
        }
        return "";
    }

    private void note(String call, long answer) {
        told.add(call + " answered " + answer);
    }

    private void plateAndParts() {
        for (int what = 0; what <= 10; what++) {
            note("told(" + what + ")", x.told(what));
        }
        for (int part = 0; part <= 5; part++) {
            for (int what = 0; what <= 4; what++) {
                note("of(" + part + ", " + what + ")", x.of(part, what));
            }
        }
        int plateWide = x.told(0);
        int plateHigh = x.told(1);
        for (int left = 0; left <= plateWide; left++) {
            for (int down = 0; down <= plateHigh; down++) {
                note("picture(" + left + ", " + down + ")", x.picture(left, down));
            }
        }
    }

    private void pieces() {
        int plateWide = x.told(0);
        int plateHigh = x.told(1);
        for (int left = 0; left < plateWide; left++) {
            for (int down = 0; down < plateHigh; down++) {
                for (int wide = 1; left + wide <= plateWide; wide++) {
                    for (int high = 1; down + high <= plateHigh; high++) {
                        String of = "(" + left + ", " + down + ", " + wide + ", " + high + ")";
                        note("best" + of, x.best(left, down, wide, high));
                        note("is" + of, x.is(left, down, wide, high));
                    }
                }
            }
        }
    }

    private void cuts() {
        int nodes = x.told(6);
        for (int node = 0; node < nodes; node++) {
            for (int what = 0; what <= 7; what++) {
                note("node(" + node + ", " + what + ")", x.node(node, what));
            }
        }
    }

    private void asked() {
        for (int two = 0; two <= 1; two++) {
            note("staged(1, " + two + ")", x.staged(1, two));
            note("staged(2, " + two + ")", x.staged(2, two));
            note("staged(3, " + two + ")", x.staged(3, two));
            note("sizes(" + two + ")", x.sizes(two));
            note("more(" + two + ")", x.more(two));
            note("bound(" + two + ")", x.bound(two));
            note("mean(" + two + ")", x.mean(two));
            for (int part = 0; part <= 4; part++) {
                note("fits(" + part + ", " + two + ")", x.fits(part, two));
                note("odds(" + part + ", " + two + ")", x.odds(part, two));
            }
        }
        toldByHand();
        for (int tape = 0; tape <= 5; tape++) {
            note("judge(" + tape + ", 0)", x.judge(tape, 0));
            note("judge(" + tape + ", 1)", x.judge(tape, 1));
        }
        note("told(5)", x.told(5));
    }

    private void toldByHand() {
        for (int what = 0; what <= 3; what++) {
            note("count(" + what + ")", x.count(what));
        }
        for (int what = 0; what <= 2; what++) {
            note("after(" + what + ")", x.after(what));
        }
        note("looked()", x.looked());
    }

    private void tapes() {
        for (int tape = 0; tape <= 5; tape++) {
            for (int i = 0; i <= 60 && x.peek(tape, i) != PlateCuts.NO; i++) {
                note("peek(" + tape + ", " + i + ")", x.peek(tape, i));
            }
        }
    }

    private void setUp() {
        for (int what = 0; what <= 5; what++) {
            note("told(" + what + ")", x.told(what));
        }
        for (int part = 0; part <= 4; part++) {
            for (int what = 0; what <= 3; what++) {
                note("of(" + part + ", " + what + ")", x.of(part, what));
            }
        }
        int plateWide = x.told(0);
        int plateHigh = x.told(1);
        for (int left = 0; left < plateWide; left++) {
            for (int down = 0; down < plateHigh; down++) {
                note("best of " + left + ", " + down, x.best(left, down, 1, 1));
            }
        }
    }

    private void text() {
        note("read()", x.read());
        setUp();
        note("the text behind read(): count(3)", x.count(3));
        note("read()", x.read());
    }

    private void image() {
        note("undo()", x.undo());
        setUp();
        toldByHand();
        for (int part = 0; part <= 4; part++) {
            note("fits(" + part + ", 0)", x.fits(part, 0));
            note("fits(" + part + ", 1)", x.fits(part, 1));
        }
    }

    /** Which sort a tape has shows by what is left of a number. */
    private void sorts() {
        long[] values = {1L << 40 | 0x7FFF_FF80L, 0};
        for (int tape = 0; tape <= 5; tape++) {
            for (long v : values) {
                note("item(" + tape + ", 0, " + v + ")", x.item(tape, 0, v));
                note("peek(" + tape + ", 0)", x.peek(tape, 0));
            }
            note("shift(" + tape + ", 0, " + tape + ", 0, 60)", x.shift(tape, 0, tape, 0, 60));
        }
    }

    /** Rows told by hand that are hidden as things stand may show by other worths. */
    private void otherWorths() {
        for (int part = 0; part <= 4; part++) {
            for (int worth = 1; worth <= 41; worth += 20) {
                note("renew(" + part + ", 2, " + worth + ")", x.renew(part, 2, worth));
                note("looked()", x.looked());
                note("after(0)", x.after(0));
                note("after(1)", x.after(1));
                note("fits(" + part + ", 0)", x.fits(part, 0));
            }
            note("turn(" + part + ", true)", x.turn(part, true));
        }
    }

    /** How much room there is left, and what fills it. */
    private void room() {
        for (int i = 0; i < 9; i++) {
            note("see(0, 1)", x.see(0, 1));
            note("event(0, 2)", x.event(0, 2));
            note("book(0, 0)", x.book(0, 0));
            note("defect(" + i % 3 + ", " + i / 3 + ")", x.defect(i % 3, i / 3));
            note("part(1, 1, 3, false)", x.part(1, 1, 3, false));
        }
        for (int i = 0; i < 101; i++) {
            note("feed('1')", x.feed('1'));
        }
        toldByHand();
        setUp();
    }
}
