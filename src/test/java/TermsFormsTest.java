import java.util.ArrayList;
import java.util.List;

/**
 * The forms of DEFINITIONS, E and C, each TOKEN of each of them: what has to be there is taken, all
 * else is fault 2 at its place, and the end is fault 3.
 */
public final class TermsFormsTest {
    private static final Checks c = new Checks("forms");

    /** What a part of a form is, a TEXT for it, and the TOKENS that can begin it. */
    private enum Part {
        E("1", "( x 1 -1 nil"),
        C("(write 1)", "("),
        X("x", "x"),
        Y("y", "y"),
        F("g", "x"),
        TYPE("list", "int list imod lmod"),
        TYPE_OF_CHG("list", "int list"),
        LEVEL("fun", "fun chg"),
        OPEN("(", "("),
        CLOSE(")", ")"),
        NEXT_OF_LIST("(", "( )"),
        END_OF_LIST(")", "( )");

        private final String text;
        private final List<String> first;

        Part(String text, String first) {
            this.text = text;
            this.first = List.of(first.split(" "));
        }

        boolean canBegin(String token) {
            return first.contains(token);
        }
    }

    private static final String OF_FUN = "(fun f () int ";
    private static final String OF_CHG = "(chg f () int ";

    public static void main(String[] args) {
        formsOfE();
        formsOfC();
        formsOfDefinitions();
        headsOfE();
        headsOfC();
        anyNumberOfE();
        words();
        nearWords();
        twoOfACase();
        c.end();
    }

    private static void formsOfE() {
        c.sentence("promises 4, 8, 11",
            "E: 0 a NUMBER; 1 X; 2 nil; 3 (add E E), 4 (sub E E), 5 (mul E E), 6 (div E E), 7 (rem E E), 8 (less E E), 9 (same E E)");
        String[] two = {"add", "sub", "mul", "div", "rem", "less", "same"};
        for (int i = 0; i < two.length; i++) {
            form(OF_FUN, two[i], 3 + i, 2, Part.E, Part.E);
        }
        leaf("0", 0);
        leaf("-5", 0);
        leaf("x", 1);
        leaf("nil", 2);
        c.sentence("promises 4, 8, 11", "10 (if E E E); 11 (let X E E); 12 (case E E (X X E)), the two X being different; 13 (cons E E)");
        form(OF_FUN, "if", 10, 3, Part.E, Part.E, Part.E);
        form(OF_FUN, "let", 11, 2, Part.X, Part.E, Part.E);
        form(OF_FUN, "case", 12, 3, Part.E, Part.E, Part.OPEN, Part.X, Part.Y, Part.E, Part.CLOSE);
        form(OF_FUN, "cons", 13, 2, Part.E, Part.E);
        c.sentence("promises 4, 8, 11", "16 (imod C), 17 (lmod C)");
        form(OF_FUN, "imod", 16, 1, Part.C);
        form(OF_FUN, "lmod", 17, 1, Part.C);
    }

    private static void formsOfC() {
        c.sentence("promises 4, 8, 11",
            "C: 18 (read E X C); 19 (write E); 20 (if E C C); 21 (let X E C); 22 (case E C (X X C)); 23 (jump F E ..)");
        form(OF_CHG, "read", 18, 2, Part.E, Part.X, Part.C);
        form(OF_CHG, "write", 19, 1, Part.E);
        form(OF_CHG, "if", 20, 3, Part.E, Part.C, Part.C);
        form(OF_CHG, "let", 21, 2, Part.X, Part.E, Part.C);
        form(OF_CHG, "case", 22, 3, Part.E, Part.C, Part.OPEN, Part.X, Part.Y, Part.C, Part.CLOSE);
    }

    private static void formsOfDefinitions() {
        c.sentence("promises 4, 5, 11", "(fun F ((X TYPE) ..) TYPE E), or (chg F ((X TYPE) ..) TYPE C)");
        parts("", Part.OPEN, Part.LEVEL, Part.F);
        parts("(fun f ", Part.OPEN, Part.NEXT_OF_LIST, Part.X, Part.TYPE, Part.CLOSE, Part.END_OF_LIST, Part.TYPE,
            Part.E, Part.CLOSE);
        parts("(chg f ", Part.OPEN, Part.NEXT_OF_LIST, Part.X, Part.TYPE, Part.CLOSE, Part.END_OF_LIST,
            Part.TYPE_OF_CHG, Part.C, Part.CLOSE);
        // Behind a DEFINITION there is another one, or the end.
        for (String before : new String[] {"", OF_FUN + "1)", OF_CHG + "(write 1)) "}) {
            wrongTokens(before, Part.OPEN);
            c.readWell(before);
        }
    }

    private static void leaf(String token, int kind) {
        TwoLevelParser x = c.readWell(OF_FUN + token + ")");
        c.due("node(0, 0) of " + token, x.node(0, 0), kind);
        c.due("node(0, 1) of " + token, x.node(0, 1), 0);
        c.due("node(0, 2) of " + token, x.node(0, 2), 1);
        wrongTokens(OF_FUN + token + " ", Part.CLOSE);
    }

    private static void form(String before, String word, int kind, int nodes, Part... all) {
        String start = before + "(" + word + " ";
        StringBuilder text = new StringBuilder(start);
        for (Part part : all) {
            text.append(part.text).append(' ');
        }
        TwoLevelParser x = c.readWell(text + "))");
        c.due("node(0, 0) of " + text, x.node(0, 0), kind);
        c.due("node(0, 1) of " + text, x.node(0, 1), nodes);
        parts(start, all);
        wrongTokens(text.toString(), Part.CLOSE);
        c.fault(3, text + "^");
        c.fault(3, text + ")^");
    }

    /** At each part: what can not begin it is fault 2, and the end is fault 3. */
    private static void parts(String start, Part... all) {
        StringBuilder text = new StringBuilder(start);
        for (Part part : all) {
            if (!text.toString().isEmpty()) {
                c.fault(3, text + "^");
            }
            wrongTokens(text.toString(), part);
            text.append(part.text).append(' ');
        }
    }

    private static void wrongTokens(String before, Part part) {
        List<String> tokens = new ArrayList<>(List.of("(", ")", "x", "1", "-1"));
        tokens.addAll(List.of(Words.ALL));
        for (String token : tokens) {
            if (!part.canBegin(token)) {
                c.fault(2, before + "^" + token);
            }
        }
        c.fault(1, before + "^!");
    }

    private static void headsOfE() {
        c.sentence("promises 4, 11", "a word that is none");
        String heads = " add sub mul div rem less same if let case cons call memo imod lmod ";
        for (String before : new String[] {OF_FUN, OF_FUN + "(add 1 ", OF_CHG + "(write ", OF_CHG + "(jump f "}) {
            heads(before, heads);
        }
    }

    private static void headsOfC() {
        c.sentence("promises 4, 11", "a word that is none");
        String heads = " read write if let case jump ";
        for (String before : new String[] {OF_CHG, OF_CHG + "(if 1 (write 2)", OF_FUN + "(imod ", OF_FUN + "(lmod (read 1 x "}) {
            heads(before, heads);
        }
    }

    private static void heads(String before, String heads) {
        for (String word : Words.ALL) {
            if (heads.contains(" " + word + " ")) {
                c.fault(3, before + "(" + word + "^");
            } else {
                c.fault(2, before + "(^" + word + " 1 2)");
            }
            // One letter less or more is no word.
            c.fault(2, before + "(^" + word + "s 1 2)");
            c.fault(2, before + "(^" + word.substring(1) + " 1 2)");
        }
        for (String none : new String[] {"x", "1", "-1", "(", ")"}) {
            c.fault(2, before + "(^" + none + " 1 2)");
        }
        c.fault(3, before + "(^");
        for (String level : new String[] {"fu", "funs", "chgs", "x", "1", "()", ")", "int", "add"}) {
            c.fault(2, "(^" + level + " f () int 1)");
        }
    }

    private static void anyNumberOfE() {
        c.sentence("promises 4, 8, 11", "14 (call F E ..), 15 (memo F E ..), with any number of E");
        for (int n : new int[] {0, 1, 2, 3, 8, 9, 24, 25, 64, 65, 255, 256, 1000, 1900}) {
            any(OF_FUN, "call", 14, n);
            any(OF_FUN, "memo", 15, n);
        }
        c.sentence("promises 4, 8, 11", "23 (jump F E ..)");
        for (int n : new int[] {0, 1, 2, 3, 8, 9, 24, 25, 64, 65, 255, 256, 1000, 1900}) {
            any(OF_CHG, "jump", 23, n);
        }
    }

    private static void any(String before, String word, int kind, int n) {
        String text = before + "(" + word + " g" + Checks.times(n, " 7");
        TwoLevelParser x = c.readWell(text + "))");
        c.due("look(4), n = " + n, x.look(4), n + 1);
        c.due("node(0, 0), n = " + n, x.node(0, 0), kind);
        c.due("node(0, 1), n = " + n, x.node(0, 1), n);
        c.due("node(0, 2), n = " + n, x.node(0, 2), n + 1);
        c.due("node(n, 4), n = " + n, x.node(n, 4), n == 0 ? -1 : 0);
        c.due("number(n), n = " + n, x.number(n), n == 0 ? 0 : 7);
        c.due("node(n + 1, 0), n = " + n, x.node(n + 1, 0), -1);
        if (n < 10) {
            parts(before + "(" + word + " ", Part.F);
            for (String none : new String[] {"fun", "int", "add", "read", "(read 1 x", "(x", "(1", "()"}) {
                boolean inside = none.startsWith("(");
                c.fault(2, text + " " + (inside ? "(^" + none.substring(1) : "^" + none));
            }
            c.fault(3, text + "^");
        }
    }

    private static void words() {
        c.sentence("promises 4, 6, 9, 11",
            "but the words that are said here: fun, chg, int, list, nil and those behind the ( of 3 to 23.");
        for (String word : Words.ALL) {
            for (Words.NamePlace at : Words.NamePlace.values()) {
                if (at == Words.NamePlace.VARIABLE && word.equals("nil")) {
                    TwoLevelParser x = c.readWell(at.with(word));
                    c.due("node(0, 0) of nil", x.node(0, 0), 2);
                    c.due("name(0, 0) of nil", x.name(0, 0), 0);
                    c.due("node(0, 5) of nil", x.node(0, 5), -1);
                } else {
                    c.fault(2, at.marked(word));
                }
            }
        }
        c.due("words", Words.ALL.length, 23);
    }

    /** A NAME that has one letter more or less than a word, or another one, is no word. */
    private static void nearWords() {
        c.sentence("promises 4, 6, 9", "An X or F, and the F of a DEFINITION, is any NAME");
        for (String word : Words.ALL) {
            String[] near = {word + "a", word + "z", "a" + word, "z" + word, word.substring(1),
                word.substring(0, word.length() - 1), word + word, new StringBuilder(word).reverse().toString()};
            for (String name : near) {
                for (Words.NamePlace at : Words.NamePlace.values()) {
                    TwoLevelParser x = c.readWell(at.with(name));
                    c.due("the NAME in " + at.with(name), at.nameIn(x), Checks.nameOf(name));
                }
            }
        }
        for (String name : new String[] {"f", "x", "e", "c", "type", "text", "head", "tail", "true", "def", "mod", "else"}) {
            for (Words.NamePlace at : Words.NamePlace.values()) {
                TwoLevelParser x = c.readWell(at.with(name));
                c.due("the NAME in " + at.with(name), at.nameIn(x), Checks.nameOf(name));
            }
        }
    }

    private static void twoOfACase() {
        c.sentence("promises 4, 9, 11", "one NAME twice where they have to be different");
        for (String name : new String[] {"x", "zz", "aaaaaaaaaaaa", "zzzzzzzzzzzz"}) {
            c.fault(2, OF_FUN + "(case 1 2 (" + name + " ^" + name + " 3)))");
            c.fault(2, OF_FUN + "(case 1 2 (" + name + " ^" + name);
            c.fault(2, OF_CHG + "(case 1 (write 2) (" + name + " ^" + name + " (write 3))))");
            String other = name.substring(1) + "b";
            TwoLevelParser x = c.readWell(OF_FUN + "(case 1 2 (" + name + " " + other + " 3)))");
            c.due("name(0, 0)", x.name(0, 0), Checks.nameOf(name));
            c.due("name(0, 1)", x.name(0, 1), Checks.nameOf(other));
        }
        c.readWell(OF_FUN + "(case 1 2 (x xx 3)))");
        c.readWell(OF_FUN + "(case 1 2 (xx x 3)))");
        c.readWell(OF_FUN + "(case 1 2 (x y (case 1 2 (x y (case 1 2 (y x 3)))))))");
    }
}
