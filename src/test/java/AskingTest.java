import java.util.function.Consumer;

/** "What is asked changes nothing", and what is changed there and back, or once more to the same, leaves all as it was. */
final class AskingTest extends Sentences {
    private static Standing standing = Standing.NEW;

    public static void main(String[] args) {
        begin("AskingTest");
        for (Standing one : Standing.values()) {
            standing = one;
            ofThePlate();
            ofTheCuts();
            ofWhatIsTold();
            ofTapes();
            allAtOnce();
            plateThereAndBack();
            partsThereAndBack();
            imageOnceMore();
            tapesThereAndBack();
            toldAloneChanges();
        }
        finish();
    }

    private static void leavesAll(String what, Consumer<PlateCuts> calls) {
        leavesAlike(what, calls, x -> { });
    }

    private static void leavesAlike(String what, Consumer<PlateCuts> calls, Consumer<PlateCuts> others) {
        String difference = Looks.difference(standing.made(), calls, others);
        holds(standing + ": " + what + " leaves all as it is, but " + difference, difference.isEmpty());
    }

    private static void ofThePlate() {
        sentence("of, told, count are asked");
        for (int i = 0; i <= 10; i++) {
            int what = i;
            leavesAll("told(" + what + ")", x -> x.told(what));
            leavesAll("of(0, " + what + ")", x -> x.of(0, what));
            leavesAll("of(4, " + what + ")", x -> x.of(4, what));
            leavesAll("count(" + what + ")", x -> x.count(what));
        }
    }

    private static void ofTheCuts() {
        sentence("best, is, node, picture, staged, sizes, more, bound are asked");
        leavesAll("best(0, 0, 1, 1)", x -> x.best(0, 0, 1, 1));
        leavesAll("best(1, 1, 2, 2)", x -> x.best(1, 1, 2, 2));
        leavesAll("best(0, 0, 3, 3)", x -> x.best(0, 0, 3, 3));
        leavesAll("is(0, 0, 1, 1)", x -> x.is(0, 0, 1, 1));
        leavesAll("is(1, 0, 1, 2)", x -> x.is(1, 0, 1, 2));
        for (int i = 0; i <= 7; i++) {
            int what = i;
            leavesAll("node(0, " + what + ")", x -> x.node(0, what));
            leavesAll("node(2, " + what + ")", x -> x.node(2, what));
        }
        leavesAll("picture(0, 0)", x -> x.picture(0, 0));
        leavesAll("picture(2, 2)", x -> x.picture(2, 2));
        for (int i = 0; i <= 1; i++) {
            int two = i;
            for (int stages = 1; stages <= 3; stages++) {
                int n = stages;
                leavesAll("staged(" + n + ", " + two + ")", x -> x.staged(n, two));
            }
            leavesAll("sizes(" + two + ")", x -> x.sizes(two));
            leavesAll("more(" + two + ")", x -> x.more(two));
            leavesAll("bound(" + two + ")", x -> x.bound(two));
        }
    }

    private static void ofWhatIsTold() {
        sentence("fits, odds, mean, after, looked are asked");
        for (int i = 0; i <= 1; i++) {
            int two = i;
            for (int j = 0; j <= 4; j++) {
                int part = j;
                leavesAll("fits(" + part + ", " + two + ")", x -> x.fits(part, two));
                leavesAll("odds(" + part + ", " + two + ")", x -> x.odds(part, two));
            }
            leavesAll("mean(" + two + ")", x -> x.mean(two));
        }
        for (int i = 0; i <= 2; i++) {
            int what = i;
            leavesAll("after(" + what + ")", x -> x.after(what));
        }
        leavesAll("looked()", x -> x.looked());
    }

    private static void ofTapes() {
        sentence("judge, peek are asked");
        for (int i = 0; i <= 5; i++) {
            int tape = i;
            for (int j = 0; j <= 3; j++) {
                int at = j;
                leavesAll("judge(" + tape + ", " + at + ")", x -> x.judge(tape, at));
                leavesAll("peek(" + tape + ", " + at + ")", x -> x.peek(tape, at));
            }
        }
    }

    private static void allAtOnce() {
        sentence("all that is asked, one behind the other");
        leavesAll("asking", x -> {
            x.fits(0, 0);
            x.told(5);
            x.odds(0, 0);
            x.node(0, 7);
            x.staged(3, 1);
            x.picture(0, 0);
            x.more(0);
            x.best(0, 0, 1, 1);
            x.after(2);
            x.looked();
            x.more(1);
            x.judge(0, 0);
            x.staged(1, 0);
            x.told(10);
        });
        leavesAlike("asking ahead of a change", x -> {
            x.told(6);
            x.fits(0, 1);
            x.kerf(2);
        }, x -> x.kerf(2));
        leavesAlike("asking between two changes", x -> {
            x.kerf(2);
            x.told(6);
            x.after(0);
            x.part(1, 1, 9, false);
        }, x -> {
            x.kerf(2);
            x.part(1, 1, 9, false);
        });
    }

    private static void plateThereAndBack() {
        sentence("THE PLATE, KERF, DEFECTS there and back");
        leavesAlike("plate there and back, but for DEFECTS", x -> {
            int wide = x.told(0);
            int high = x.told(1);
            x.plate(7, 1);
            x.told(5);
            x.plate(wide, high);
        }, PlateCuts::mend);
        leavesAlike("plate as it is, but for DEFECTS", x -> x.plate(x.told(0), x.told(1)), PlateCuts::mend);
        leavesAll("kerf there and back", x -> {
            int was = x.kerf(2);
            x.told(5);
            x.kerf(was);
        });
        leavesAll("kerf as it is", x -> x.kerf(x.told(2)));
        leavesAlike("defects there and back", x -> {
            x.mend();
            x.defect(0, 1);
            x.told(5);
            x.mend();
        }, PlateCuts::mend);
        leavesAlike("mend twice", x -> {
            x.mend();
            x.mend();
        }, PlateCuts::mend);
    }

    private static void partsThereAndBack() {
        sentence("what is of PARTS there and back");
        for (int i = 0; i <= 4; i++) {
            int part = i;
            for (int j = 0; j <= 2; j++) {
                int what = j;
                leavesAll("renew(" + part + ", " + what + ", v)", x -> {
                    int was = x.renew(part, what, 6);
                    x.told(5);
                    x.renew(part, what, was);
                });
                leavesAll("renew(" + part + ", " + what + ") to what it is", x -> x.renew(part, what, x.of(part, what)));
            }
            leavesAll("turn(" + part + ")", x -> {
                boolean might = x.of(part, 3) == 1;
                x.turn(part, !might);
                x.told(5);
                x.turn(part, might);
            });
        }
    }

    private static void imageOnceMore() {
        sentence("image, undo once more");
        leavesAlike("image twice", x -> {
            x.image();
            x.image();
        }, PlateCuts::image);
        leavesAlike("undo behind image", x -> {
            x.image();
            x.undo();
        }, PlateCuts::image);
        leavesAlike("undo twice", x -> {
            x.undo();
            x.undo();
        }, PlateCuts::undo);
        leavesAlike("undo of all that came since image", x -> {
            x.image();
            x.plate(2, 2);
            x.kerf(1);
            x.part(1, 1, 1, false);
            x.renew(0, 2, 44);
            x.turn(1, true);
            x.defect(0, 0);
            x.see(-1, 0);
            x.see(0, 1);
            x.event(-1, 0);
            x.event(0, 1);
            x.book(-1, 0);
            x.book(0, 1);
            x.told(5);
            x.undo();
        }, PlateCuts::image);
    }

    private static void tapesThereAndBack() {
        sentence("TAPES: what comes to what it is already");
        for (int i = 0; i <= 5; i++) {
            int tape = i;
            leavesAll("shift of a tape's items to their places", x -> {
                x.shift(tape, 0, tape, 0, 1);
                x.shift(tape, 0, tape, 0, 2);
                x.shift(tape, 1, tape, 1, 0);
            });
            leavesAll("item to what it is", x -> {
                x.item(tape, 0, x.peek(tape, 0));
                x.item(tape, 1, x.peek(tape, 1));
            });
            leavesAlike("a row of another sort, then nothing", x -> {
                x.tape(tape, 2, 9);
                x.item(tape, 8, 8);
                x.tape(tape, -1, 0);
            }, x -> x.tape(tape, -1, 61));
            leavesAlike("a row of another length first", x -> {
                x.tape(tape, 0, 60);
                x.item(tape, 3, 8);
                x.tape(tape, 1, 4);
            }, x -> x.tape(tape, 1, 4));
        }
    }

    private static void toldAloneChanges() {
        sentence("SEEN, EVENTS, the BOOK, THE TEXT: rows that come and go leave all else");
        leavesAlike("see, and none then", x -> {
            x.see(0, 3);
            x.see(-1, 0);
        }, x -> x.see(-1, MOST));
        leavesAlike("event, and none then", x -> {
            x.event(0, 1);
            x.event(-1, 0);
        }, x -> x.event(-1, LEAST));
        leavesAlike("book, and empty then", x -> {
            x.book(0, 3);
            x.book(-1, 0);
        }, x -> x.book(-1, MOST));
        if (standing == Standing.NEW || standing == Standing.HALF) {
            leavesAll("read of an empty text", PlateCuts::read);
            leavesAlike("read of a text that does what calls do", x -> {
                feedAll(x, "s34;k2;t127;p319;d11");
                x.read();
            }, x -> {
                x.plate(3, 4);
                x.kerf(2);
                x.part(1, 2, 7, true);
                x.part(3, 1, 9, false);
                x.defect(1, 1);
            });
        }
    }
}
