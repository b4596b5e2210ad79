/** THE TEXT (Terms 1, promises 10 and 11) at its bounds, a sentence a test. */
final class TextBoundsTest extends Sentences {
    private static final String DIGITS = "0123456789";

    public static void main(String[] args) {
        begin("TextBoundsTest");
        signs();
        aHundredBytes();
        fullThenRead();
        emptyText();
        firstBytes();
        digitsOfEachClause();
        worthOfThreeDigits();
        betweenClauses();
        endsTooEarly();
        noBlanks();
        oneToTwelveClauses();
        longestSetUp();
        faultOfManyClauses();
        emptyBehindRead();
        nothingDoneByAFault();
        plateClause();
        kerfClause();
        partClauses();
        worthClauses();
        fullOfParts();
        defectClauses();
        oneBehindTheOther();
        readKeepsAllElse();
        finish();
    }

    private static String repeat(String what, int times, String between) {
        StringBuilder all = new StringBuilder();
        for (int i = 0; i < times; i++) {
            all.append(i == 0 ? "" : between).append(what);
        }
        return all.toString();
    }

    private static void signs() {
        sentence("feed: a sign (0 .. 127): how many it has; BAD");
        for (int sign = -2; sign <= 130; sign++) {
            PlateCuts x = new PlateCuts();
            boolean good = sign >= 0 && sign <= 127;
            due("feed(" + sign + ")", x.feed(sign), good ? 1 : BAD);
            due("count(3)", x.count(3), good ? 1 : 0);
        }
        PlateCuts x = new PlateCuts();
        x.feed('k');
        int[] far = {LEAST, -129, -128, 256 + '1', 65536 + '1', MOST};
        for (int sign : far) {
            due("feed(" + sign + ")", x.feed(sign), BAD);
        }
        due("no other byte came instead", x.read(), -11);
    }

    private static void aHundredBytes() {
        sentence("THE TEXT (bytes, 100 at most); FULL");
        PlateCuts x = new PlateCuts();
        for (int i = 1; i <= 100; i++) {
            due("feed " + i, x.feed('k'), i);
        }
        due("the 101st", x.feed('k'), FULL);
        due("sign 0", x.feed(0), FULL);
        due("count(3)", x.count(3), 100);
        sentence("feed: BAD; FULL - in this order");
        due("feed(-1)", x.feed(-1), BAD);
        due("feed(128)", x.feed(128), BAD);
        due("count(3)", x.count(3), 100);
    }

    private static void fullThenRead() {
        sentence("what is refused by FULL leaves THE TEXT as it is");
        PlateCuts x = new PlateCuts();
        feedAll(x, repeat("k2", 12, ";"));
        feedAll(x, repeat(" ", 65, ""));
        due("FULL", x.feed('k'), FULL);
        due("the fault is where it was", x.read(), -10 - 35);
        due("there is room again", feedAll(x, repeat("k2", 12, ";")), 35);
        due("read()", x.read(), 12);
    }

    private static void emptyText() {
        sentence("CLAUSES, 1 to 12: none is a FAULT at the end, which is 0");
        PlateCuts x = new PlateCuts();
        due("read()", x.read(), -10);
        due("read()", x.read(), -10);
        stands(x, 4, 4, 0, 0, 0);
    }

    private static void firstBytes() {
        sentence("FAULT: the first byte with which none begins so - each sign as the first");
        for (int sign = 0; sign <= 127; sign++) {
            PlateCuts x = new PlateCuts();
            x.feed(sign);
            due("sign " + sign, x.read(), "skptd".indexOf(sign) >= 0 ? -11 : -10);
        }
    }

    private static void digitsOfEachClause() {
        sentence("WIDE, HIGH, KERF, x, y: a digit each - each sign in the place of each digit");
        String[] digitPlaces = {"s1", "s", "k", "p1", "p", "p11", "t1", "t", "t11", "d1", "d"};
        for (String before : digitPlaces) {
            String whole = before.startsWith("s") || before.startsWith("d") ? "s11" : before.startsWith("k") ? "k1" : "p111";
            for (int sign = 0; sign <= 127; sign++) {
                PlateCuts x = new PlateCuts();
                feedAll(x, before);
                x.feed(sign);
                int length = before.length();
                boolean digit = DIGITS.indexOf(sign) >= 0;
                if (digit && length + 1 == whole.length()) {
                    holds(before + " and " + sign + " is no fault", x.read() >= 0);
                } else {
                    due(before + " and " + sign, x.read(), digit ? -10 - (length + 1) : -10 - length);
                }
            }
        }
    }

    private static void worthOfThreeDigits() {
        sentence("WORTH: 1 or 2 digits - each sign behind one, and behind two");
        for (int sign = 0; sign <= 127; sign++) {
            PlateCuts x = new PlateCuts();
            feedAll(x, "p111");
            x.feed(sign);
            boolean digit = DIGITS.indexOf(sign) >= 0;
            due("p111 and " + sign, x.read(), digit ? 1 : sign == ';' ? -15 : -14);
            feedAll(x, "t1111");
            x.feed(sign);
            due("t1111 and " + sign, x.read(), sign == ';' ? -16 : -15);
        }
    }

    private static void betweenClauses() {
        sentence("CLAUSES with ; between - each sign behind a clause");
        String[] clauses = {"s11", "k1", "d11"};
        for (String clause : clauses) {
            for (int sign = 0; sign <= 127; sign++) {
                PlateCuts x = new PlateCuts();
                feedAll(x, clause);
                x.feed(sign);
                int length = clause.length();
                due(clause + " and " + sign, x.read(), sign == ';' ? -10 - (length + 1) : -10 - length);
            }
        }
    }

    private static void endsTooEarly() {
        sentence("FAULT: the end of THE TEXT, if it ends too early - each beginning of a set-up");
        String all = "s77;k1;p123;t4599;d66";
        // how many clauses are done, where the beginning is a set-up; else 0, as none is refused
        int[] done = {0, 0, 0, 1, 0, 0, 2, 0, 0, 0, 0, 3, 0, 0, 0, 0, 4, 4, 0, 0, 0, 5};
        for (int length = 0; length <= all.length(); length++) {
            PlateCuts x = new PlateCuts();
            due("the first " + length, readAll(x, all.substring(0, length)), done[length] > 0 ? done[length] : -10 - length);
            due("told(3)", x.told(3), done[length] >= 4 ? 2 : done[length] == 3 ? 1 : 0);
        }
    }

    private static void noBlanks() {
        sentence("Nothing stands between (no blanks)");
        String all = "s77;k1;p12;";
        for (int at = 0; at < all.length(); at++) {
            PlateCuts x = new PlateCuts();
            due("a blank at " + at, readAll(x, all.substring(0, at) + " " + all.substring(at)), -10 - at);
            stands(x, 4, 4, 0, 0, 0);
        }
        due("a blank at the end", readAll(new PlateCuts(), "s77 "), -13);
    }

    private static void oneToTwelveClauses() {
        sentence("CLAUSES, 1 to 12");
        for (int clauses = 1; clauses <= 12; clauses++) {
            PlateCuts x = new PlateCuts();
            due(clauses + " clauses", readAll(x, repeat("k1", clauses, ";")), clauses);
            due("told(2)", x.told(2), 1);
        }
        PlateCuts x = new PlateCuts();
        due("a 13th", readAll(x, repeat("k1", 13, ";")), -10 - 35);
        due("a ; behind the 12th", readAll(x, repeat("k1", 12, ";") + ";"), -10 - 35);
        due("told(2)", x.told(2), 0);
        due("clauses that would be refused are some, too", readAll(x, repeat("k9", 13, ";")), -10 - 35);
        due("twelve of them", readAll(x, repeat("k9", 12, ";")), 0);
    }

    private static void longestSetUp() {
        sentence("CLAUSES, 1 to 12: the longest has 71 bytes");
        PlateCuts x = new PlateCuts();
        due("bytes", feedAll(x, repeat("t7799", 12, ";")), 71);
        due("five parts come", x.read(), 5);
        due("told(3)", x.told(3), 5);
        due("of(4, 2)", x.of(4, 2), 99);
        due("a third digit in the 12th", readAll(x, repeat("t7799", 12, ";") + "9"), -10 - 71);
    }

    private static void faultOfManyClauses() {
        sentence("FAULT: its place is counted from THE TEXT's beginning, up to its end");
        for (int at = 0; at <= 11; at++) {
            PlateCuts x = new PlateCuts();
            String before = repeat("d00;", at, "");
            due("a fault in clause " + at, readAll(x, before + "x"), -10 - 4 * at);
            due("clause " + at + " is not there", readAll(x, before), -10 - 4 * at);
        }
        PlateCuts full = new PlateCuts();
        due("the 100th byte", feedAll(full, repeat("d", 100, "")), 100);
        due("but the second is none", full.read(), -11);
    }

    private static void emptyBehindRead() {
        sentence("THE TEXT, which is empty then (by a FAULT, too)");
        PlateCuts x = new PlateCuts();
        due("k1", readAll(x, "k1"), 1);
        due("count(3)", x.count(3), 0);
        due("nothing of it is left", x.read(), -10);
        due("x", readAll(x, "k1;x"), -13);
        due("count(3)", x.count(3), 0);
        due("nothing of it is left", readAll(x, "k2"), 1);
        due("all refused", readAll(x, "k7"), 0);
        due("count(3)", x.count(3), 0);
        due("the next is the first", x.feed('s'), 1);
    }

    private static void nothingDoneByAFault() {
        sentence("Without FAULT they are done: by a FAULT none is, not those ahead of it either");
        PlateCuts x = from("s55;k1;p117;d44");
        String[] faulty = {"s22;x", "k0;k", "p221;p22", "t221;;", "d00;d0", "s22;k0;p111;t111;d00;s22;k0;p111;t111;d00;k1;k1;k1"};
        for (String all : faulty) {
            holds(all + " has a fault", readAll(x, all) <= -10);
            stands(x, 5, 5, 1, 1, 1);
            due("told(5)", x.told(5), 8 * 7);
        }
    }

    private static void plateClause() {
        sentence("s WIDE HIGH: THE PLATE becomes so, without DEFECTS; refused ones aren't done");
        for (int wide = 0; wide <= 9; wide++) {
            for (int high = 0; high <= 9; high++) {
                PlateCuts x = from("s26;k1;p111;d15");
                boolean good = wide >= 1 && wide <= 7 && high >= 1 && high <= 7;
                due("s" + wide + high, readAll(x, "s" + wide + high), good ? 1 : 0);
                stands(x, good ? wide : 2, good ? high : 6, 1, 1, good ? 0 : 1);
            }
        }
    }

    private static void kerfClause() {
        sentence("k KERF; refused ones aren't done");
        for (int kerf = 0; kerf <= 9; kerf++) {
            PlateCuts x = from("k1");
            due("k" + kerf, readAll(x, "k" + kerf), kerf <= 2 ? 1 : 0);
            due("told(2)", x.told(2), kerf <= 2 ? kerf : 1);
        }
    }

    private static void partClauses() {
        sentence("p (may not be TURNED), t (may) WIDE HIGH WORTH; refused ones aren't done");
        for (int wide = 0; wide <= 9; wide++) {
            for (int high = 0; high <= 9; high++) {
                boolean good = wide >= 1 && wide <= 7 && high >= 1 && high <= 7;
                for (int turns = 0; turns <= 1; turns++) {
                    PlateCuts x = new PlateCuts();
                    String clause = (turns == 1 ? "t" : "p") + wide + high + "5";
                    due(clause, readAll(x, clause), good ? 1 : 0);
                    due("told(3)", x.told(3), good ? 1 : 0);
                    due("of(0, 0)", x.of(0, 0), good ? wide : NONE);
                    due("of(0, 1)", x.of(0, 1), good ? high : NONE);
                    due("of(0, 2)", x.of(0, 2), good ? 5 : NONE);
                    due("of(0, 3)", x.of(0, 3), good ? turns : NONE);
                }
            }
        }
    }

    private static void worthClauses() {
        sentence("WORTH 1 .. 99 by 1 or 2 digits");
        for (int worth = 0; worth <= 99; worth++) {
            PlateCuts x = new PlateCuts();
            due("p11" + worth, readAll(x, "p11" + worth), worth >= 1 ? 1 : 0);
            due("of(0, 2)", x.of(0, 2), worth >= 1 ? worth : NONE);
        }
        PlateCuts x = new PlateCuts();
        due("p1100", readAll(x, "p1100"), 0);
        due("t1101", readAll(x, "t1101"), 1);
        due("of(0, 2)", x.of(0, 2), 1);
        due("a worth of one digit, and another clause", readAll(x, "p119;p128"), 2);
        due("of(1, 2)", x.of(1, 2), 9);
        due("of(2, 2)", x.of(2, 2), 8);
    }

    private static void fullOfParts() {
        sentence("a sixth PART would be refused, and isn't done");
        PlateCuts x = from("p111;p112;p113;p114");
        due("two more", readAll(x, "p775;k2;p776;s33"), 3);
        stands(x, 3, 3, 2, 5, 0);
        due("of(4, 2)", x.of(4, 2), 5);
    }

    private static void defectClauses() {
        sentence("d x y: a DEFECT comes; refused ones aren't done");
        for (int at = 0; at <= 9; at++) {
            PlateCuts x = from("s37");
            due("d" + at + "0", readAll(x, "d" + at + "0"), at <= 2 ? 1 : 0);
            due("told(4)", x.told(4), at <= 2 ? 1 : 0);
            x.mend();
            due("d0" + at, readAll(x, "d0" + at), at <= 6 ? 1 : 0);
            due("told(4)", x.told(4), at <= 6 ? 1 : 0);
        }
        PlateCuts x = from("s37");
        due("one twice", readAll(x, "d12;d12"), 1);
        due("three and a fourth", readAll(x, "d00;d01;d02"), 2);
        due("told(4)", x.told(4), 3);
        due("x is ahead of y", x.defect(1, 2), STATE);
    }

    private static void oneBehindTheOther() {
        sentence("they are done, one behind the other");
        PlateCuts x = new PlateCuts();
        due("a plate behind a defect takes it away", readAll(x, "d33;s44"), 2);
        due("told(4)", x.told(4), 0);
        due("a defect behind a plate stays", readAll(x, "s55;d44"), 2);
        due("told(4)", x.told(4), 1);
        due("a defect ahead of its plate is refused", readAll(x, "d66;s77"), 1);
        stands(x, 7, 7, 0, 0, 0);
        due("the last one stands", readAll(x, "k2;k1"), 2);
        due("told(2)", x.told(2), 1);
        due("parts as they come", readAll(x, "t121;p341"), 2);
        due("of(0, 1)", x.of(0, 1), 2);
        due("of(1, 1)", x.of(1, 1), 4);
        due("a refused one ahead, in between, behind", readAll(x, "k3;k2;s80;p551;d77"), 2);
        stands(x, 7, 7, 2, 3, 0);
    }

    private static void readKeepsAllElse() {
        sentence("read: SEEN, EVENTS, the BOOK, THE IMAGE, TAPES stay, whatever it does");
        PlateCuts x = from("p111;p222");
        x.see(0, 1);
        x.event(2, 1);
        x.event(3, 1);
        x.book(0, 1);
        x.book(0, 1);
        x.book(1, 1);
        tell(x, 0, 5);
        x.image();
        due("read", readAll(x, "s66;k1;p331;d55"), 4);
        due("read with a fault", readAll(x, "s11;"), -14);
        due("count(0)", x.count(0), 1);
        due("count(1)", x.count(1), 2);
        due("count(2)", x.count(2), 3);
        holdsJust(x, 0, 5);
        due("undo()", x.undo(), 2);
        stands(x, 4, 4, 0, 2, 0);
    }
}
