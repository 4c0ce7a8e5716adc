/** The boundaries of FAULTS: each with its place (^), the first and the last place, and their order. */
public final class TermsFaultsTest {
    private static final Checks c = new Checks("faults");

    /** Right up to the last TOKEN: a fault there must leave nothing of what stands before. */
    private static final String RIGHT = "(fun f ((a int) (b lmod)) imod (let x (case a nil (h t h)) (imod (read x y (jump f y))))) \n"
        + "(chg g () int (if 1 (write -2) (case nil (write 1) (h t (let x (memo f) (write (call f)))))))  ";

    public static void main(String[] args) {
        order();
        firstForOneThenForTwo();
        placesOfOne();
        placesOfJoined();
        anotherTokenHasToBe();
        namesThatCanNotBe();
        ends();
        everyPrefix();
        everyByteSpoilt();
        farPlaces();
        faultsChangeNothingElse();
        questionsChangeNothing();
        c.end();
    }

    private static void order() {
        c.sentence("promises 4, 11", "all TOKENS are looked at one by one, from the first one on");
        // Of two faults the one that stands first is told, whichever it is.
        c.fault(2, "(fun f () int ^) !");
        c.fault(1, "(fun f () int ^! )");
        c.fault(1, "(fun f ^abcdefghijklm) ! )");
        c.fault(2, "^f!");
        c.fault(2, "^)!");
        c.fault(1, "^!)");
        c.fault(2, "(fun f () int (add 1^)) (fun f");
        c.fault(2, "(fun ^fun (((");
        c.fault(1, "(fun f () int (add x^A 1))");
        c.fault(1, "(fun f () int 1)^A");
        c.fault(2, "(fun f () int 1)^a A");
        c.fault(1, "(fun f^\t() int 1)");
        c.fault(1, "(fun f () int 1)^\r\n");
        c.fault(2, "(fun f () int 1)^)(fun f () int 1)");
        c.fault(2, "(fun f () int 1)(fun ^f () int 2147483648)");
        c.fault(1, "(fun f () int ^2147483648)(fun f () int 1)");
        c.fault(2, "(fun f ((x int)(^x int)) nosuch 1)");
        c.fault(2, "(chg f () ^imod 1)");
        c.fault(3, "(fun f () int 1^");
        c.fault(3, "(^");
    }

    private static void firstForOneThenForTwo() {
        c.sentence("promises 4, 11", "each for 1 and then for 2");
        // Each of these TOKENS can not be there, and is none besides: that is fault 1.
        for (String none : new String[] {"abcdefghijklm", "2147483648", "-2147483649", "-", "a1", "1a", "!", "A", "\t"}) {
            for (String before : new String[] {"", "(", "(fun ", "(fun f ", "(fun f (", "(fun f ((", "(fun f ((x ", "(fun f ((x int ",
                "(fun f () ", "(fun f () int ", "(fun f () int 1 ", "(fun f () int 1) ", "(fun f () int (", "(fun f () int (let ",
                "(fun f () int (add 1 2 ", "(fun f () int (case 1 2 ", "(fun f () int (case 1 2 (h ", "(chg f () ", "(chg f () int ",
                "(chg f () int (", "(chg f () int (read 1 ", "(fun f () int 1)(fun "}) {
                c.fault(1, before + "^" + none);
                c.fault(1, before + "^" + none + " )");
            }
        }
        // With a TOKEN that is one, the same places are fault 2.
        c.fault(2, "(fun f () int (let ^2147483647");
        c.fault(2, "^abcdefghijkl");
        c.fault(2, "(fun f () ^abcdefghijkl");
    }

    private static void placesOfOne() {
        c.sentence("promises 4, 11", "1: a byte that belongs to no TOKEN, or a NAME of more than 12 letters, or a NUMBER that is none (its first byte;");
        c.fault(1, "^!");
        c.fault(1, "^!(fun f () int 1)");
        c.fault(1, "(fun f () int 1)^!");
        c.fault(1, "(fun f () int 1)^!!!");
        c.fault(1, " \n ^!");
        c.fault(1, "^abcdefghijklm");
        c.fault(2, "^abcdefghijkl");
        c.fault(1, "(fun ^abcdefghijklm () int 1)");
        c.readWell("(fun abcdefghijkl () int 1)");
        c.fault(1, "(fun f () int ^2147483648)");
        c.readWell("(fun f () int 2147483647)");
        c.fault(1, "(fun f () int ^-2147483649)");
        c.readWell("(fun f () int -2147483648)");
        c.fault(1, "(fun f () int ^-)");
        c.fault(1, "(fun f () int \n\n ^00000000002147483648)");
    }

    private static void placesOfJoined() {
        c.sentence("promises 4, 11", "of letters, digits and - one behind the other the first one)");
        c.fault(1, "(fun f () int ^1a)");
        c.fault(1, "(fun f () int ^123456789a)");
        c.fault(1, "(fun f () int ^-12-)");
        c.fault(1, "(fun f () int ^abc-)");
        c.fault(1, "(fun f () int ^x" + Checks.times(3000, "y") + ")");
        c.fault(1, "(fun f () int (add ^x1 2))");
        c.fault(1, "(fun f () int (^add1 2))");
        c.fault(1, "(fun f ()^int1)");
        // A byte that is none ends what is joined: the TOKEN before it is looked at by itself.
        c.fault(1, "(fun f () int x^!y)");
        c.fault(2, "(fun f () ^x!y)");
        c.fault(1, "(fun f () int ^x1!y)");
    }

    private static void anotherTokenHasToBe() {
        c.sentence("promises 4, 11", "2: a TOKEN that can not be there: another one has to be");
        // A fault at the first TOKEN, at the last one, and next to a right one.
        String[] faults = {"^f", "^)", "^1", "^nil", "(^)", "(^(", "(^1", "(^f", "(^add 1 2)", "(fun f () int 1 ^1", "(fun f () int 1)^)",
            "(fun f () int 1)^1", "(fun f () int 1) ^fun", "(chg f () int (write 1) ^(", "(chg f () int (write 1)) ^)",
            "(fun f () int (add 1^))", "(fun f () int (add 1 2 ^3))", "(fun f () int (if 1 2^))", "(fun f () int (if 1 2 3 ^4))",
            "(fun f () int (let x 1^))", "(fun f () int (let x 1 2 ^3))", "(fun f () int (case 1 2^))", "(fun f () int (case 1 2 ^h t 3))",
            "(fun f () int (case 1 2 (h t 3 ^4)))", "(fun f () int (case 1 2 (h t 3) ^4))", "(fun f () int (imod ^1))",
            "(fun f () int (imod (write 1) ^(write 1)))", "(chg f () int ^1)", "(chg f () int (read 1 x ^1))", "(chg f () int (write^))",
            "(chg f () int (write 1 ^1))", "(chg f () int (if 1 (write 1)^))", "(chg f () int (jump^))", "(fun f () int (call^))"};
        for (String marked : faults) {
            c.fault(2, marked);
        }
    }

    private static void namesThatCanNotBe() {
        c.sentence("promises 4, 11", "a NAME that can not be one");
        for (Words.NamePlace at : Words.NamePlace.values()) {
            c.fault(2, at.marked("fun"));
            c.fault(2, at.marked("jump"));
            c.readWell(at.with("funs"));
            c.readWell(at.with("jum"));
        }
    }

    private static void ends() {
        c.sentence("promises 4, 11", "3: the TEXT ends where a TOKEN has to be (its length)");
        c.readWell("");
        c.readWell(" ");
        c.fault(3, "(^");
        c.fault(3, " (^");
        c.fault(3, "( ^");
        c.fault(3, "(\n\n^");
        c.fault(3, "(fun f () int 1^");
        c.fault(3, "(fun f () int 1 \n ^");
        c.readWell("(fun f () int 1)");
        c.readWell("(fun f () int 1) \n ");
        c.fault(3, "(fun f () int 1)(^");
        c.fault(3, "(fun f () int 1)(fun g () int 1^");
        c.fault(3, "(" + Checks.times(3990, " ") + "^");
        c.fault(3, Checks.times(3990, "\n") + "(^");
    }

    /** Each beginning of a right TEXT is one without fault, or ends where a TOKEN has to be. */
    private static void everyPrefix() {
        c.sentence("promises 4, 11", "the TEXT ends where a TOKEN has to be");
        int firstEnd = RIGHT.indexOf("\n") - 1;
        int secondEnd = RIGHT.length() - 2;
        for (int n = 0; n <= RIGHT.length(); n++) {
            String begin = RIGHT.substring(0, n);
            boolean whole = n == 0 || n >= firstEnd && n <= firstEnd + 2 || n >= secondEnd;
            boolean cut = n > 0 && n < RIGHT.length() && isJoined(RIGHT.charAt(n - 1)) && isJoined(RIGHT.charAt(n));
            if (whole) {
                c.readWell(begin);
            } else if (!cut) {
                c.fault(3, begin + "^");
                c.fault(3, begin + "  \n^");
            }
        }
    }

    private static boolean isJoined(char b) {
        return b >= 'a' && b <= 'z' || b >= '0' && b <= '9' || b == '-';
    }

    /** A byte that is none, between any two TOKENS and at both ends. */
    private static void everyByteSpoilt() {
        c.sentence("promises 4, 11", "a byte that belongs to no TOKEN");
        for (int n = 0; n <= RIGHT.length(); n++) {
            boolean cut = n > 0 && n < RIGHT.length() && isJoined(RIGHT.charAt(n - 1)) && isJoined(RIGHT.charAt(n));
            if (!cut) {
                c.fault(1, RIGHT.substring(0, n) + "^." + RIGHT.substring(n));
            }
        }
    }

    /** Only calls behind the 512th can bring so many bytes; their places are said all the same. */
    private static void farPlaces() {
        c.sentence("promises 2, 4, 11", "FAULTS, with a place in the TEXT");
        String blanks = Checks.times(8191, " ");
        c.fault(1, blanks + "^!");
        c.fault(2, blanks + "^)");
        c.fault(2, blanks + "^x");
        c.fault(3, blanks + "(^");
        c.readWell(blanks + "\n");
        c.fault(1, "^" + Checks.times(8192, "a"));
        c.fault(1, "^" + Checks.times(8192, "9"));
        c.fault(2, "^" + Checks.times(8192, "0"));
        String last = "(fun f () int 1)";
        TwoLevelParser x = c.readWell(Checks.times(8192 - last.length(), "\n") + last);
        c.due("definition(0, 4)", x.definition(0, 4), 8192 - 11);
        c.due("node(0, 3)", x.node(0, 3), 8192 - 2);
    }

    private static void faultsChangeNothingElse() {
        c.sentence("promises 4, 11", "What answers false or a fault changes nothing but what is said.");
        String[] spoilt = {" !", ")", "(", "(fun f () int 1)", "(fun g", "x"};
        int[] faults = {1, 2, 3, 2, 2, 2};
        String right = "(fun f () int (add 1 2))(chg g () int (write 1))";
        for (int i = 0; i < spoilt.length; i++) {
            TwoLevelParser x = c.readWell(right);
            Checks.give(x, spoilt[i]);
            c.due("read() with " + spoilt[i], x.read(), faults[i]);
            c.due("look(0) with " + spoilt[i], x.look(0), right.length() + spoilt[i].length());
            c.nothingRead("with " + spoilt[i], x);
            String told = Checks.answers(x);
            c.due("read() again with " + spoilt[i], x.read(), faults[i]);
            c.due("all that it tells, again", Checks.answers(x), told);
        }
        // The TEXT stays, so what is given behind it can mend it.
        TwoLevelParser x = c.fault(3, "(fun f () int (add 1 2)^");
        Checks.give(x, ")");
        c.due("read() of the mended TEXT", x.read(), 0);
        c.due("all that it tells", Checks.answers(x), Checks.answers(c.readWell("(fun f () int (add 1 2))")));
    }

    /** Whatever is asked for, there or not, the TEXT, the fault and what was read stay. */
    private static void questionsChangeNothing() {
        c.sentence("promises 5 to 11", "Nothing is promised beyond the answers and state changes described above");
        TwoLevelParser[] all = {new TwoLevelParser(), c.readWell("(fun f ((a int)) int (case a -5 (h t h)))"),
            c.fault(3, "(fun f^"), Checks.given("(fun f () int 1)")};
        for (TwoLevelParser x : all) {
            String told = Checks.answers(x);
            for (int at : new int[] {Integer.MIN_VALUE, -2, -1, 0, 1, 4, 64, Integer.MAX_VALUE}) {
                x.definition(at, at);
                x.title(at, at);
                x.parameter(at, at);
                x.node(at, at);
                x.name(at, at);
                x.number(at);
                x.look(at);
            }
            c.due("all that it tells", Checks.answers(x), told);
            c.due("read() without a fault", x.read() == 0, x != all[2]);
        }
    }
}
