/** The faults of the terms, each with its place (^), and their order. */
public final class FaultsTest {
    private static final Checks c = new Checks("faults");
    private static final String[] WORDS = {"fun", "chg", "int", "list", "nil", "add", "sub", "mul", "div", "rem", "less",
        "same", "if", "let", "case", "cons", "call", "memo", "imod", "lmod", "read", "write", "jump"};

    public static void main(String[] args) {
        noToken();
        otherBytes();
        definitions();
        wordsAreNoNames();
        heads();
        expressions();
        changes();
        twice();
        everyPrefix();
        order();
        c.end();
    }

    private static void noToken() {
        String[] none = {"abcdefghijklm", "a1", "1a", "a-", "-a", "-", "--1", "1-", "1-1", "-1-", "2147483648",
            "-2147483649", "99999999999999999999999999", "18446744073709551617", "-18446744073709551616", "0x1",
            "add1", "a-b", "abcdefghijklmnopqrstuvwxyz", "nil0", "-nil", "0000000002147483648",
            Checks.times(2000, "a"), Checks.times(2000, "9")};
        for (String run : none) {
            c.fault(1, "(fun f () int ^" + run + ")");
            c.fault(1, "(fun f () int 1)^" + run);
            c.fault(1, "(fun ^" + run + " () int 1)");
            c.fault(1, "(^" + run);
        }
    }

    private static void otherBytes() {
        for (int b = 0; b < 256; b++) {
            boolean joined = b >= 'a' && b <= 'z' || b >= '0' && b <= '9' || b == '-';
            boolean known = joined || b == '(' || b == ')' || b == ' ' || b == '\n' || b == '^';
            if (!known) {
                c.fault(1, "^" + (char) b);
                c.fault(1, "(fun f () int 1^" + (char) b + ")");
                c.fault(1, "(fun f^" + (char) b + "g () int 1)");
            }
        }
        // The mark itself can not be given by fault().
        TwoLevelParser x = Checks.given("(fun f ^");
        c.due("read() of a ^", x.read(), 1);
        c.due("look(2) of a ^", x.look(2), 7);
    }

    private static void definitions() {
        String[] faults = {"^f", "^)", "^1", "^nil", "(^)", "(^(", "(^1", "(^f", "(^add 1 2)", "(^int", "(fun ^(", "(fun ^)",
            "(fun ^1", "(fun f ^)", "(fun f ^x", "(fun f ^1", "(fun f ^int", "(fun f (^x", "(fun f (^int", "(fun f (^1",
            "(fun f ((^)", "(fun f ((^(", "(fun f ((^1", "(fun f ((x ^)", "(fun f ((x ^x", "(fun f ((x ^1", "(fun f ((x ^(",
            "(fun f ((x ^nil", "(fun f ((x ^fun", "(fun f ((x ^add", "(fun f ((x int ^(", "(fun f ((x int ^int",
            "(fun f ((x int ^1", "(fun f ((x int) ^int", "(fun f () ^(", "(fun f () ^)", "(fun f () ^1", "(fun f () ^f",
            "(fun f () ^nil", "(fun f () ^read", "(chg f () ^imod (write 1))", "(chg f () ^lmod (write 1))", "(chg f () ^x",
            "(fun f () int 1 ^1", "(fun f () int 1 ^(", "(fun f () int 1 ^x", "(fun f () int 1)^)", "(fun f () int 1)^1",
            "(fun f () int 1) ^fun", "(fun f () int 1)(^f", "(chg f () int (write 1) ^(", "(chg f () int (write 1)) ^)"};
        for (String marked : faults) {
            c.fault(2, marked);
        }
    }

    private static void wordsAreNoNames() {
        for (String word : WORDS) {
            c.fault(2, "(fun ^" + word + " () int 1)");
            c.fault(2, "(chg ^" + word + " () int (write 1))");
            c.fault(2, "(fun f ((a int)(^" + word + " int)) int 1)");
            c.fault(2, "(fun f () int (let ^" + word + " 1 2))");
            c.fault(2, "(fun f () int (case 1 2 (^" + word + " t 3)))");
            c.fault(2, "(fun f () int (case 1 2 (h ^" + word + " 3)))");
            c.fault(2, "(fun f () int (call ^" + word + "))");
            c.fault(2, "(fun f () int (memo ^" + word + " 1))");
            c.fault(2, "(chg f () int (jump ^" + word + "))");
            c.fault(2, "(chg f () int (read 1 ^" + word + " (write 1)))");
            c.fault(2, "(chg f () int (let ^" + word + " 1 (write 1)))");
            c.fault(2, "(chg f () int (case 1 (write 1) (^" + word + " t (write 1))))");
            if (!word.equals("nil")) {
                c.fault(2, "(fun f () int ^" + word + ")");
                c.fault(2, "(fun f () int (call g 1 ^" + word + "))");
            }
            // A NAME that only begins or ends like a word is one.
            c.readWell("(fun " + word + "x ((x" + word + " int)) int (let " + word + "y 1 (call z" + word + " y" + word + ")))");
        }
    }

    private static void heads() {
        String ofE = " add sub mul div rem less same if let case cons call memo imod lmod ";
        String ofC = " read write if let case jump ";
        for (String word : WORDS) {
            if (!ofE.contains(" " + word + " ")) {
                c.fault(2, "(fun f () int (^" + word + " 1 2))");
                c.fault(2, "(chg f () int (write (^" + word + " 1 2)))");
            } else {
                c.fault(3, "(fun f () int (" + word + "^");
            }
            if (!ofC.contains(" " + word + " ")) {
                c.fault(2, "(chg f () int (^" + word + " 1 2))");
                c.fault(2, "(fun f () int (imod (^" + word + " 1 2)))");
            } else {
                c.fault(3, "(chg f () int (" + word + "^");
            }
            if (!word.equals("fun") && !word.equals("chg")) {
                c.fault(2, "(^" + word + " f () int 1)");
            }
        }
        String[] faults = {"(fun f () int (^x 1))", "(fun f () int (^1 1))", "(fun f () int (^(", "(fun f () int (^)",
            "(chg f () int (^x 1))", "(chg f () int (^1 1))", "(chg f () int (^(", "(chg f () int (^)"};
        for (String marked : faults) {
            c.fault(2, marked);
        }
    }

    private static void expressions() {
        String[] two = {"add", "sub", "mul", "div", "rem", "less", "same", "cons"};
        for (String word : two) {
            c.fault(2, "(fun f () int (" + word + "^))");
            c.fault(2, "(fun f () int (" + word + " 1^))");
            c.fault(2, "(fun f () int (" + word + " 1 2 ^3))");
            c.fault(2, "(fun f () int (" + word + " 1 2 ^(add 1 2)))");
        }
        String[] faults = {"^)", "(if ^)", "(if 1 ^)", "(if 1 2 ^)", "(if 1 2 3 ^4)", "(let ^1 2 3)", "(let ^(x) 2 3)",
            "(let ^)", "(let x ^)", "(let x 1 ^)", "(let x 1 2 ^3)", "(case ^)", "(case 1 ^)", "(case 1 2 ^)", "(case 1 2 ^3)",
            "(case 1 2 ^h t 3)", "(case 1 2 (^))", "(case 1 2 (^1 t 3))", "(case 1 2 (^(", "(case 1 2 (h ^))",
            "(case 1 2 (h ^1 3))", "(case 1 2 (h ^(add", "(case 1 2 (h t ^))", "(case 1 2 (h t 3 ^4))", "(case 1 2 (h t 3 ^(",
            "(case 1 2 (h t 3) ^4)", "(case 1 2 (h t 3) ^(", "(call ^)", "(call ^1)", "(call ^(f))", "(memo ^)", "(memo ^-1)",
            "(memo f ^memo)", "(call f 1 ^int)", "(imod ^)", "(imod ^1)", "(imod ^x)", "(imod ^nil)", "(imod ^write 1)",
            "(imod (^add 1 2))", "(imod (write 1) ^(write 1))", "(imod (write 1) ^1)", "(lmod ^)", "(lmod ^1)",
            "(lmod (write 1) ^1)", "(lmod (^imod (write 1)))"};
        for (String marked : faults) {
            c.fault(2, "(fun f () int " + marked + ")");
            c.fault(2, "(chg f () int (write (cons nil " + marked + ")))");
        }
    }

    private static void changes() {
        String[] faults = {"^)", "^1", "^x", "^nil", "^write", "(read ^)", "(read 1 ^)", "(read 1 ^2", "(read 1 ^(write 1))",
            "(read 1 x ^)", "(read 1 x ^1)", "(read 1 x ^x)", "(read 1 x (^add 1 2))", "(read 1 x (write 1) ^1)",
            "(read (^write 1) x (write 1))", "(write ^)", "(write 1 ^1)", "(write (^write 1))", "(if ^)", "(if (^read 1 x",
            "(if 1 ^1", "(if 1 (^add", "(if 1 (write 1) ^)", "(if 1 (write 1) ^1)", "(if 1 (write 1) (write 1) ^1)",
            "(let ^1", "(let x ^)", "(let x (^write 1)", "(let x 1 ^2)", "(let x 1 ^x)", "(let x 1 (write 1) ^2)", "(case ^)",
            "(case 1 ^1", "(case 1 (write 1) ^1", "(case 1 (write 1) (^write 1))", "(case 1 (write 1) (h ^(",
            "(case 1 (write 1) (h t ^1", "(case 1 (write 1) (h t (^add", "(case 1 (write 1) (h t (write 1) ^1))",
            "(case 1 (write 1) (h t (write 1)) ^1)", "(jump ^)", "(jump ^1", "(jump ^(f", "(jump f (^write 1)", "(jump f ^jump"};
        for (String marked : faults) {
            c.fault(2, "(chg f () int " + marked + ")");
            c.fault(2, "(fun f () int (let x 1 (lmod " + marked + ")))");
        }
    }

    private static void twice() {
        c.fault(2, "(fun f () int 1)(fun ^f () int 1)");
        c.fault(2, "(fun f () int 1)(fun g () int 1)(chg ^f () int (write 1))");
        c.fault(2, "(chg f () int (write 1))(chg g () int (write 1))(fun ^g () int 1)");
        c.fault(2, "(fun f ((a int)(^a int)) int 1)");
        c.fault(2, "(fun f ((a int)(b list)(c int)(^b list)) int 1)");
        c.fault(2, "(chg f ((a int)(b list)(c int)(^a lmod)) int (write 1))");
        c.fault(2, "(fun f () int (case 1 2 (x ^x 3)))");
        c.fault(2, "(chg f () int (case 1 (write 2) (x ^x (write 3))))");
        c.readWell("(fun f () int (case f f (f g f)))(fun g ((f int)(g int)) int (let f g (let g f (call f g))))");
        c.readWell("(chg f ((x int)) int (read x x (let x x (case x (write x) (x y (read y x (write x)))))))");
        c.readWell("(fun abcdefghijkl () int 1)(fun abcdefghijk () int 1)(fun abcdefghijkm () int 1)");
    }

    /** Each beginning of a right TEXT is one without fault, or ends where a TOKEN has to be. */
    private static void everyPrefix() {
        String text = "(fun f ((a int) (b lmod)) imod (let x (case a nil (h t h)) (imod (read x y (jump f y))))) \n"
            + "(chg g () int (if 1 (write -2) (case nil (write 1) (h t (let x (memo f) (write (call f)))))))  ";
        int firstEnd = text.indexOf("\n") - 1;
        int secondEnd = text.length() - 2;
        for (int n = 0; n <= text.length(); n++) {
            String begin = text.substring(0, n);
            boolean whole = n == 0 || n >= firstEnd && n <= firstEnd + 2 || n >= secondEnd;
            boolean cut = n > 0 && n < text.length() && isJoined(text.charAt(n - 1)) && isJoined(text.charAt(n));
            if (whole) {
                c.readWell(begin);
            } else if (!cut) {
                c.fault(3, begin + "^");
                c.fault(3, begin + "  \n^");
            }
        }
    }

    private static boolean isJoined(char b) {
        return b >= 'a' && b <= 'z' || b >= '0' && b <= '9' || b == '-';
    }

    private static void order() {
        c.fault(2, "(fun f () int ^) !");
        c.fault(1, "(fun f () int ^! )");
        c.fault(1, "(fun f ^abcdefghijklm) ! )");
        c.fault(2, "^f!");
        c.fault(1, "^f1!");
        c.fault(2, "(fun f () int (add 1^)) (fun f");
        c.fault(2, "(fun ^fun (((");
        c.fault(1, "(fun f () int (add x^A 1))");
        c.fault(1, "(fun f () int 1)^A");
        c.fault(2, "(fun f () int 1)^a A");
        c.fault(1, "(fun f^\t() int 1)");
        c.fault(1, "(fun f () int 1)^\r\n");
        c.fault(3, "(fun f () int 1^");
        c.fault(3, "(^");
    }
}
