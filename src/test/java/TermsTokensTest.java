/** The boundaries of TOKENS: NAMES, NUMBERS, what stands between them, and bytes that are none. */
public final class TermsTokensTest {
    private static final Checks c = new Checks("tokens");

    public static void main(String[] args) {
        brackets();
        lengthsOfNames();
        lettersOfNames();
        namesAsLongs();
        digitsAndSigns();
        rangeOfNumbers();
        lengthsOfNumbers();
        numbersThatWrapAround();
        blanks();
        noBlanks();
        joined();
        otherBytes();
        c.end();
    }

    /** Each ( and each ) is a TOKEN of its own, with its own place, also without blanks round it. */
    private static void brackets() {
        c.sentence("promises 4, 8, 11", "A TOKEN is ( or )");
        c.due("look(4)", c.readWell("(fun f()int(add(add 1 2)(add(add 3 4)5)))").look(4), 9);
        c.fault(2, "(^(");
        c.fault(2, "^)(");
        c.fault(2, "(^)");
        c.fault(2, "(fun f((^()int 1)");
        c.fault(2, "(fun f((^))int 1)");
        c.fault(2, "(fun f()int 1)^)");
        c.fault(2, "(fun f()int(add(add 1 2)3)^(");
        c.fault(3, "(fun f()int(add(add 1 2)3)^");
        for (char none : new char[] {'(' - 1, ')' + 1, '[', ']', '{', '}', '<', '>', '(' + 128, ')' + 128}) {
            c.fault(1, "^" + none + "fun f()int 1)");
            c.fault(1, "(fun f()int 1^" + none);
            c.fault(1, "(fun f()int(add(add 1 2)^" + none);
        }
    }

    private static void lengthsOfNames() {
        c.sentence("promises 4, 5, 6, 8, 9", "a NAME of 1 to 12 letters a .. z");
        for (Words.NamePlace at : Words.NamePlace.values()) {
            for (int n = 1; n <= 12; n++) {
                for (String name : new String[] {Checks.times(n, "a"), Checks.times(n, "z")}) {
                    TwoLevelParser x = c.readWell(at.with(name));
                    c.due("the NAME in " + at.with(name), at.nameIn(x), Checks.nameOf(name));
                    c.due("its place in " + at.with(name), at.placeIn(x), at.place());
                }
            }
            for (int n : new int[] {13, 14, 24, 25, 64, 1000}) {
                c.fault(1, at.marked(Checks.times(n, "a")));
                c.fault(1, at.marked(Checks.times(n, "z")));
            }
        }
        // A word of the language with letters behind it is as long as it is.
        c.readWell("(fun f () int (call additionally))");
        c.fault(1, "(fun f () int (^additionallyx 1 2))");
        c.fault(1, "(^funfunfunfunf f () int 1)");
    }

    private static void lettersOfNames() {
        c.sentence("promises 4, 6, 9", "a NAME of 1 to 12 letters a .. z");
        for (Words.NamePlace at : Words.NamePlace.values()) {
            for (char letter = 'a'; letter <= 'z'; letter++) {
                TwoLevelParser x = c.readWell(at.with("" + letter));
                c.due("the NAME in " + at.with("" + letter), at.nameIn(x), letter - 'a' + 1);
            }
            for (char none : new char[] {'a' - 1, 'z' + 1, 'A', 'Z', '_', 'a' + 128, 'z' + 128}) {
                c.fault(1, at.marked("" + none));
            }
        }
        c.fault(1, "(fun f^` () int 1)");
        c.fault(1, "(fun f^{ () int 1)");
        c.fault(1, "(fun f^A () int 1)");
    }

    private static void namesAsLongs() {
        c.sentence("promises 6, 9", "for each letter, the first one first, 32 times what there is (0), and 1 for a .. 26 for z");
        String[] names = {"a", "z", "aa", "az", "za", "zz", "abc", "aaaaaaaaaaaa", "zaaaaaaaaaaa", "aaaaaaaaaaaz",
            "zzzzzzzzzzzz"};
        long[] due = {1, 26, 33, 58, 833, 858, 1091, 37191016277640225L, 937910941751739425L, 37191016277640250L,
            966966423218645850L};
        for (int i = 0; i < names.length; i++) {
            for (Words.NamePlace at : Words.NamePlace.values()) {
                TwoLevelParser x = c.readWell(at.with(names[i]));
                c.due("the NAME in " + at.with(names[i]), at.nameIn(x), due[i]);
            }
        }
    }

    private static void number(String written, int due) {
        String text = "(fun f () int (add " + written + " x))";
        TwoLevelParser x = c.readWell(text);
        c.due("node(1, 0) of " + text, x.node(1, 0), 0);
        c.due("number(1) of " + text, x.number(1), due);
        c.due("node(2, 3) of " + text, x.node(2, 3), 20 + written.length());
    }

    private static void noNumber(String written) {
        c.fault(1, "(fun f () int (add ^" + written + " x))");
    }

    private static void digitsAndSigns() {
        c.sentence("promises 4, 10", "a NUMBER: digits, with - ahead or not");
        for (int digit = 0; digit <= 9; digit++) {
            number("" + digit, digit);
            number("-" + digit, -digit);
            number("1" + digit, 10 + digit);
        }
        for (String none : new String[] {"-", "--", "--1", "1-", "-1-", "1-1", "-1-1", "1--1", "-a", "1a", "a1", "-1a"}) {
            noNumber(none);
        }
        // The bytes next to the digits and to the sign, alone and behind a NUMBER.
        for (char none : new char[] {'0' - 1, '9' + 1, '+', ',', '.'}) {
            noNumber(none + "1");
            c.fault(1, "(fun f () int (add 1^" + none + " x))");
        }
    }

    private static void rangeOfNumbers() {
        c.sentence("promises 4, 10", "from -2147483648 to 2147483647");
        number("2147483646", 2147483646);
        number("2147483647", 2147483647);
        noNumber("2147483648");
        noNumber("2147483649");
        number("-2147483647", -2147483647);
        number("-2147483648", -2147483648);
        noNumber("-2147483649");
        noNumber("-2147483650");
        number("0", 0);
        number("-0", 0);
        number("-1", -1);
        number("1999999999", 1999999999);
        noNumber("2999999999");
    }

    private static void lengthsOfNumbers() {
        c.sentence("promises 4, 10", "(of any length, 0s ahead or not)");
        for (int n : new int[] {1, 2, 9, 10, 11, 19, 20, 32, 64, 1000, 3900}) {
            String ahead = Checks.times(n, "0");
            number(ahead, 0);
            number("-" + ahead, 0);
            number(ahead + "7", 7);
            number("-" + ahead + "7", -7);
            number(ahead + "2147483647", 2147483647);
            noNumber(ahead + "2147483648");
            number("-" + ahead + "2147483648", -2147483648);
            noNumber("-" + ahead + "2147483649");
            noNumber(ahead + "-1");
        }
    }

    /** As ints or longs these would come back to small ones. */
    private static void numbersThatWrapAround() {
        c.sentence("promises 4, 10", "a NUMBER that is none (its first byte");
        String[] none = {"4294967295", "4294967296", "4294967297", "9223372036854775807", "9223372036854775808",
            "9223372036854775809", "18446744073709551615", "18446744073709551616", "18446744073709551617",
            "340282366920938463463374607431768211457", "21474836470", "21474836480"};
        for (String written : none) {
            noNumber(written);
            noNumber("-" + written);
        }
        for (int n = 10; n <= 80; n++) {
            noNumber("1" + Checks.times(n, "0"));
            noNumber("-" + Checks.times(n + 1, "9"));
        }
        noNumber(Checks.times(3900, "9"));
    }

    private static final String[] TOKENS = {"(", "fun", "f", "(", "(", "x", "int", ")", ")", "list", "(", "case", "-1",
        "nil", "(", "h", "t", "(", "add", "h", "2", ")", ")", ")", ")"};

    private static void blanks() {
        c.sentence("promises 4, 5, 8", "Blanks (32) and ends of lines (10) stand between TOKENS as one likes");
        String[] between = {" ", "\n", "  ", "\n\n", " \n ", "\n \n", Checks.times(100, " "), Checks.times(100, "\n")};
        for (String blank : between) {
            String text = blank + String.join(blank, TOKENS) + blank;
            TwoLevelParser x = c.readWell(text);
            int width = blank.length();
            c.due("look(3)", x.look(3), 1);
            c.due("look(4)", x.look(4), 6);
            c.due("definition(0, 4)", x.definition(0, 4), 3 * width + 4);
            c.due("node(0, 3)", x.node(0, 3), 11 * width + 17);
            c.due("node(5, 3)", x.node(5, 3), 21 * width + 35);
            c.due("node(5, 3) is a 2", text.charAt(x.node(5, 3)), '2');
        }
        for (String only : new String[] {"", " ", "\n", " \n \n ", Checks.times(3000, " "), Checks.times(3000, "\n")}) {
            c.nothingRead("blanks", c.readWell(only));
        }
        for (char none : new char[] {0, 8, 9, 11, 12, 13, 31, 33, 127, 133, 160, 32 + 128, 10 + 128}) {
            c.fault(1, "^" + none + "(fun f () int 1)");
            c.fault(1, "(fun f () int 1)^" + none);
            c.fault(1, "(fun f () int (add 1^" + none + "2))");
        }
    }

    private static void noBlanks() {
        c.sentence("promises 4, 8", "and have to between NAMES and NUMBERS");
        TwoLevelParser x = c.readWell("(fun f((x int))list(case -1 nil(h t(add h 2))))");
        c.due("look(4)", x.look(4), 6);
        c.due("node(3, 3)", x.node(3, 3), 35);
        c.due("number(1)", x.number(1), -1);
        for (int i = 0; i + 1 < TOKENS.length; i++) {
            String text = withoutBlankBehind(i);
            boolean apart = "()".contains(TOKENS[i]) || "()".contains(TOKENS[i + 1]);
            c.due("read() without a fault of " + text, Checks.given(text).read() == 0, apart);
        }
        c.fault(1, "(fun f()list(^case-1 nil(h t 2)))");
        c.fault(2, "(^funf()int 1)");
        c.fault(2, "(fun f((xint^))int 1)");
        c.fault(2, "(fun f()^intx)");
        c.fault(1, "(fun f()^int1)");
        c.fault(2, "(fun f()int(add 12^))");
        c.fault(2, "(fun f()int(add xy^))");
    }

    private static String withoutBlankBehind(int i) {
        StringBuilder text = new StringBuilder();
        for (int k = 0; k < TOKENS.length; k++) {
            text.append(TOKENS[k]).append(k == i ? "" : " ");
        }
        return text.toString();
    }

    private static void joined() {
        c.sentence("promise 4", "letters, digits and - that stand one behind the other are one TOKEN, or none");
        String[] none = {"a1", "1a", "a-", "-a", "a-1", "1-a", "a1b", "1-2", "x-y", "-", "abcdefghijkl1", "nil0", "0nil",
            "add1", "abcdefghijklm"};
        for (String run : none) {
            c.fault(1, "(fun f()int ^" + run + ")");
            c.fault(1, "(fun f()int 1)^" + run);
            c.fault(1, "(fun ^" + run + "()int 1)");
            c.fault(1, "(fun f()int(call g 1 ^" + run + "(add");
            c.fault(1, "^" + run);
        }
        TwoLevelParser x = c.readWell("(fun f()int(call g 12 1 2 ab a b -1))");
        c.due("look(4)", x.look(4), 8);
        c.due("number(1)", x.number(1), 12);
        c.due("name(4, 0)", x.name(4, 0), 34);
        c.due("number(7)", x.number(7), -1);
    }

    private static void otherBytes() {
        c.sentence("promises 4, 11", "Other bytes are none.");
        for (int b = 0; b < 256; b++) {
            boolean joined = b >= 'a' && b <= 'z' || b >= '0' && b <= '9' || b == '-';
            boolean known = joined || b == '(' || b == ')' || b == ' ' || b == '\n';
            if (!known) {
                noByte("", b, "");
                noByte("(fun f () int 1", b, ")");
                noByte("(fun f", b, "g () int 1)");
                noByte("(fun f () int 1) ", b, " (fun f");
            }
        }
    }

    /** Not by the marked texts, as the mark is one of these bytes. */
    private static void noByte(String before, int b, String behind) {
        TwoLevelParser x = Checks.given(before + (char) b + behind);
        String told = "byte " + b + " behind " + before;
        c.due("read() of " + told, x.read(), 1);
        c.due("look(1) of " + told, x.look(1), 1);
        c.due("look(2) of " + told, x.look(2), before.length());
        c.due("look(3) of " + told, x.look(3), 0);
        c.due("look(4) of " + told, x.look(4), 0);
    }
}
