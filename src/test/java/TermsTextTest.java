/** The boundaries of a TEXT: how many DEFINITIONS, parameters and variables, which TYPES and NAMES. */
public final class TermsTextTest {
    private static final Checks c = new Checks("text");

    public static void main(String[] args) {
        numbersOfDefinitions();
        oneDefinitionMore();
        numbersOfParameters();
        oneParameterMore();
        typesOfParameters();
        typesOfDefinitions();
        titlesAreDifferent();
        parametersAreDifferent();
        namesThatAreThereAlready();
        variablesAtOnce();
        hiddenVariables();
        whereVariablesAre();
        oneVariableMore();
        c.end();
    }

    private static void numbersOfDefinitions() {
        c.sentence("promises 4, 5, 6, 8, 10, 11", "A TEXT is up to 64 DEFINITIONS (also none), one behind the other");
        for (int n : new int[] {0, 1, 2, 31, 32, 33, 62, 63, 64}) {
            TwoLevelParser x = c.readWell(Checks.definitions(n));
            c.due("look(3) of " + n, x.look(3), n);
            c.due("look(4) of " + n, x.look(4), n);
            for (int d = 0; d < n; d++) {
                c.due("title(" + d + ", -1)", x.title(d, -1), Checks.nameOf(Checks.nameOfNumber(d)));
                c.due("definition(" + d + ", 3)", x.definition(d, 3), d);
                c.due("number(" + d + ")", x.number(d), d);
            }
            c.due("definition(" + n + ", 0)", x.definition(n, 0), -1);
            c.due("title(" + n + ", -1)", x.title(n, -1), 0);
        }
    }

    private static void oneDefinitionMore() {
        c.sentence("promises 4, 11", "one more than 8 parameters or 64 DEFINITIONS (its ( )");
        String full = Checks.definitions(64);
        c.readWell(full + " \n ");
        c.fault(2, full + "^(fun last () int 1)");
        c.fault(2, full + " \n ^(chg last () int (write 1))");
        c.fault(2, full + "^(");
        c.fault(2, full + "^(!");
        c.fault(2, full + "^(fun f () int 1)" + Checks.definitions(64));
        c.fault(1, full + "^!");
        c.fault(2, full + "^)");
        c.fault(2, full + "^x");
        // With 63 there is still room for one, which has to be a right one.
        c.readWell(Checks.definitions(63) + "(chg last () int (write 1))");
        c.fault(3, Checks.definitions(63) + "(^");
        c.fault(2, Checks.definitions(63) + "(^x");
        TwoLevelParser x = c.fault(2, full + "^(fun last () int 1)");
        x.wipe();
        Checks.give(x, full);
        c.due("read() without the 65th", x.read(), 0);
        c.due("look(3) without the 65th", x.look(3), 64);
    }

    private static void numbersOfParameters() {
        c.sentence("promises 4, 5, 6, 7, 8", "with up to 8 parameters (X TYPE)");
        for (int n = 0; n <= 8; n++) {
            for (String text : new String[] {"(fun f (" + Checks.parameters(n) + ") int 1)",
                "(chg f (" + Checks.parameters(n) + ") int (write 1))"}) {
                TwoLevelParser x = c.readWell(text);
                c.due("definition(0, 2) of " + text, x.definition(0, 2), n);
                c.due("node(0, 7) of " + text, x.node(0, 7), n);
                for (int i = 0; i < n; i++) {
                    c.due("title(0, " + i + ") of " + text, x.title(0, i), 16 * 32 + 1 + i);
                    c.due("parameter(0, " + i + ") of " + text, x.parameter(0, i), i % 4);
                }
                c.due("title(0, " + n + ") of " + text, x.title(0, n), 0);
                c.due("parameter(0, " + n + ") of " + text, x.parameter(0, n), -1);
            }
        }
        c.fault(2, "(fun f ^int 1)");
        c.fault(2, "(fun f (^x int) int 1)");
        c.fault(2, "(fun f ((^)) int 1)");
        c.fault(2, "(fun f ((x^)) int 1)");
        c.fault(2, "(fun f ((x int ^y)) int 1)");
        c.fault(2, "(fun f ((x int ^int)) int 1)");
    }

    private static void oneParameterMore() {
        c.sentence("promises 4, 11", "one more than 8 parameters or 64 DEFINITIONS (its ( )");
        String eight = Checks.parameters(8);
        for (String level : new String[] {"(fun f (", "(chg f ("}) {
            c.fault(2, level + eight + "^(pz int)) int 1)");
            c.fault(2, level + eight + " ^( pz int)) int 1)");
            c.fault(2, level + eight + "^(");
            c.fault(2, level + eight + "^(!");
            c.fault(2, level + eight + "^(pa int)) int 1)");
            c.fault(1, level + eight + "^!");
            c.fault(2, level + eight + "^x");
            c.fault(3, level + eight + "^");
            c.fault(3, level + eight + ")^");
            c.fault(3, level + Checks.parameters(7) + "(^");
        }
        // The parameters of each DEFINITION count by themselves.
        c.readWell("(fun f (" + eight + ") int 1)(chg g (" + eight + ") int (write 1))(fun h (" + eight + ") int 1)");
    }

    private static void typesOfParameters() {
        c.sentence("promises 4, 7", "a TYPE is int, list, imod or lmod (of any parameter)");
        String[] types = {"int", "list", "imod", "lmod"};
        for (int type = 0; type < types.length; type++) {
            TwoLevelParser x = c.readWell("(fun f ((x " + types[type] + ")) int 1)");
            c.due("parameter(0, 0) of a fun, " + types[type], x.parameter(0, 0), type);
            x = c.readWell("(chg f ((x " + types[type] + ")) int (write 1))");
            c.due("parameter(0, 0) of a chg, " + types[type], x.parameter(0, 0), type);
        }
        for (String none : noTypes()) {
            c.fault(2, "(fun f ((x ^" + none + ")) int 1)");
            c.fault(2, "(chg f ((x int) (y ^" + none + ")) int (write 1))");
        }
    }

    private static void typesOfDefinitions() {
        c.sentence("promises 4, 5", "that of a chg itself int or list");
        String[] types = {"int", "list", "imod", "lmod"};
        for (int type = 0; type < types.length; type++) {
            TwoLevelParser x = c.readWell("(fun f () " + types[type] + " 1)");
            c.due("definition(0, 1) of a fun, " + types[type], x.definition(0, 1), type);
            if (type < 2) {
                x = c.readWell("(chg f () " + types[type] + " (write 1))");
                c.due("definition(0, 1) of a chg, " + types[type], x.definition(0, 1), type);
            }
        }
        c.sentence("promises 4, 11", "a TYPE of a chg that is neither int nor list");
        c.fault(2, "(chg f () ^imod (write 1))");
        c.fault(2, "(chg f () ^lmod (write 1))");
        c.fault(2, "(fun g () imod 1)(chg f ((x imod)) ^imod (write 1))");
        c.fault(2, "(fun g () imod 1)(chg f ((x lmod)) ^lmod");
        c.readWell("(chg f () int (write 1))(fun g () lmod 1)(fun h () imod 1)");
        for (String none : noTypes()) {
            c.fault(2, "(fun f () ^" + none + " 1)");
            c.fault(2, "(chg f () ^" + none + " (write 1))");
        }
    }

    /** The words that are no TYPE, and NAMES with one letter less or more than a TYPE. */
    private static String[] noTypes() {
        return new String[] {"in", "ints", "lis", "lists", "imo", "imods", "lmo", "lmods", "mod", "xint", "x", "fun", "chg",
            "nil", "add", "if", "read", "write", "jump", "memo", "0", "1", "-1", "(int)", "(", ")"};
    }

    private static void titlesAreDifferent() {
        c.sentence("promises 4, 6, 11", "NAMES of DEFINITIONS are different");
        String fun = "(fun f () int 1)";
        c.fault(2, fun + "(fun ^f () int 1)");
        c.fault(2, fun + "(chg ^f () int (write 1))");
        c.fault(2, "(chg f () int (write 1))(fun ^f () int 1)");
        c.fault(2, "(chg f () list (write 1))(fun g () int 1)(chg ^f () int (write 1))");
        c.fault(2, fun + "(fun g () int 1)(fun ^g () int 1)");
        c.fault(2, fun + "(fun ^f");
        for (int same : new int[] {0, 1, 31, 61, 62}) {
            c.fault(2, Checks.definitions(63) + "(fun ^" + Checks.nameOfNumber(same) + "() int 1)");
        }
        // Different in one letter only, in the first, in the last, or in how many there are.
        String[] near = {"aaaaaaaaaaaa", "baaaaaaaaaaa", "aaaaaaaaaaab", "aaaaaaaaaaa", "aaaaaabaaaaa", "a", "aa", "b", "z", "za"};
        StringBuilder all = new StringBuilder();
        for (String name : near) {
            all.append("(fun ").append(name).append(" () int 1)");
        }
        TwoLevelParser x = c.readWell(all.toString());
        for (int d = 0; d < near.length; d++) {
            c.due("title(" + d + ", -1)", x.title(d, -1), Checks.nameOf(near[d]));
            c.fault(2, all + "(fun ^" + near[d] + " () int 1)");
        }
    }

    private static void parametersAreDifferent() {
        c.sentence("promises 4, 6, 11", "those of the parameters of one, too");
        c.fault(2, "(fun f ((x int)(^x int)) int 1)");
        c.fault(2, "(fun f ((x int)(^x list)) int 1)");
        c.fault(2, "(chg f ((x imod)(y int)(^x imod)) int (write 1))");
        for (int same = 0; same < 7; same++) {
            c.fault(2, "(fun f (" + Checks.parameters(7) + "(^p" + (char) ('a' + same) + " int)) int 1)");
        }
        TwoLevelParser x = c.readWell("(fun f ((aaaaaaaaaaaa int)(baaaaaaaaaaa int)(aaaaaaaaaaab int)(a int)(aa int)"
            + "(b int)(z int)(za int)) int 1)");
        c.due("definition(0, 2)", x.definition(0, 2), 8);
        // Of another DEFINITION they may be the same, and so may be a DEFINITION and a parameter.
        c.readWell("(fun f ((x int)(y int)) int 1)(chg g ((x int)(y int)) int (write 1))");
        c.readWell("(fun f ((f int)(g int)) int 1)(fun g ((g int)(f int)) int 1)");
    }

    private static void namesThatAreThereAlready() {
        c.sentence("promises 4, 9",
            "(no matter whether there is such a variable or DEFINITION, or one of that name already, but as said)");
        String[] right = {"(fun f () int x)", "(fun f () int f)", "(fun f () int (call f))", "(fun f () int (call g x))",
            "(fun f () int (let f f (let f f f)))", "(fun f ((x int)) int (let x x (let x x x)))",
            "(fun f ((x int)) int (case x x (x y (case x y (y x (memo x y))))))", "(fun f () int (call x))(fun x () int (call f))",
            "(chg f ((x int)) int (read x x (let x x (case x (write x) (x y (read y x (jump x x)))))))",
            "(chg f () int (jump nosuch))", "(chg f () int (jump f))", "(fun f () int (call chgs (memo f)))(chg g () int (jump f))"};
        for (String text : right) {
            c.readWell(text);
        }
        TwoLevelParser x = c.readWell("(fun f () int (let f 1 (call f f)))");
        c.due("name(0, 0)", x.name(0, 0), 6);
        c.due("name(2, 0)", x.name(2, 0), 6);
        c.due("name(3, 0)", x.name(3, 0), 6);
        // As said: only the two X of a case have to be different.
        c.fault(2, "(fun f () int (case 1 2 (x ^x 3)))");
        c.fault(2, "(chg f () int (case 1 (write 2) (x ^x (write 3))))");
        c.readWell("(fun f ((x int)(y int)) int (case x y (x y 3)))");
        c.readWell("(fun f () int (case x x (aaaaaaaaaaaa aaaaaaaaaaab x)))");
        c.readWell("(fun f () int (case x x (x xx (case x x (xx x x)))))");
    }

    private static String lets(int n) {
        return Checks.times(n, "(let x 0 ");
    }

    private static String ends(int n) {
        return Checks.times(n, ")");
    }

    private static void variablesAtOnce() {
        c.sentence("promises 4, 8", "no more than 24 at once");
        for (int parameters = 0; parameters <= 8; parameters++) {
            String start = " f (" + Checks.parameters(parameters) + ") int ";
            int room = 24 - parameters;
            for (int n = room - 1; n <= room; n++) {
                TwoLevelParser x = c.readWell("(fun" + start + lets(n) + "x" + ends(n + 1));
                c.due("node(2n, 7), n = " + n, x.node(2 * n, 7), parameters + n);
                x = c.readWell("(chg" + start + lets(n) + "(write x)" + ends(n + 1));
                c.due("node(2n + 1, 7), n = " + n, x.node(2 * n + 1, 7), parameters + n);
                x = c.readWell("(chg" + start + Checks.times(n, "(read 0 x ") + "(write x)" + ends(n + 1));
                c.due("node(2n + 1, 7) of reads, n = " + n, x.node(2 * n + 1, 7), parameters + n);
            }
            c.fault(2, "(fun" + start + lets(room) + "(let ^x 0 x" + ends(room + 2));
            c.fault(2, "(chg" + start + lets(room) + "(let ^x 0 (write x)" + ends(room + 2));
            c.fault(2, "(chg" + start + Checks.times(room, "(read 0 x ") + "(read 0 ^x (write x)" + ends(room + 2));
            c.fault(2, "(chg" + start + lets(room) + "(read 0 ^x (write x)" + ends(room + 2));
            variablesOfCase(start, room);
        }
    }

    private static void variablesOfCase(String start, int room) {
        String end = ends(room);
        TwoLevelParser x = c.readWell("(fun" + start + lets(room - 2) + "(case 1 2 (h t 3)" + end);
        c.due("the last one's node(k, 7)", x.node(2 * room - 1, 7), 24);
        c.due("the first one's node(k, 7)", x.node(2 * room - 3, 7), 22);
        x = c.readWell("(chg" + start + lets(room - 2) + "(case 1 (write 2) (h t (write 3))" + end);
        c.due("the last one's node(k, 7)", x.node(2 * room, 7), 24);
        c.fault(2, "(fun" + start + lets(room - 1) + "(case 1 2 (h ^t 3)" + end);
        c.fault(2, "(fun" + start + lets(room) + "(case 1 2 (^h t 3)" + end);
        c.fault(2, "(chg" + start + lets(room - 1) + "(case 1 (write 2) (h ^t (write 3))" + end);
        c.fault(2, "(chg" + start + lets(room) + "(case 1 (write 2) (^h t (write 3))" + end);
    }

    private static void hiddenVariables() {
        c.sentence("promises 4, 8", "(also those that another one hides)");
        // The same NAME each time, or another one: it makes no difference.
        StringBuilder others = new StringBuilder();
        for (int i = 0; i < 24; i++) {
            others.append("(let ").append(Checks.nameOfNumber(i)).append(" 0 ");
        }
        for (String open : new String[] {lets(24), others.toString()}) {
            TwoLevelParser x = c.readWell("(fun f () int " + open + "x" + ends(25));
            c.due("node(48, 7)", x.node(48, 7), 24);
            c.fault(2, "(fun f () int " + open + "(let ^x 0 x" + ends(26));
        }
        String hides = "(let pa 0 ";
        c.readWell("(fun f ((pa int)) int " + Checks.times(23, hides) + "pa" + ends(24));
        c.fault(2, "(fun f ((pa int)) int " + Checks.times(23, hides) + "(let ^pa 0 pa" + ends(25));
        c.readWell("(fun f () int " + Checks.times(12, "(case 1 2 (h t ") + "3" + Checks.times(12, "))") + ")");
        c.fault(2, "(fun f () int " + Checks.times(12, "(case 1 2 (h t ") + "(case 1 2 (^h");
    }

    private static void whereVariablesAre() {
        c.sentence("promises 4, 8", "parameters, and those of let in its last expression, case in its last one, read");
        String full = lets(24) + "x" + ends(24);
        c.readWell("(fun f () int (let y " + full + " 1))");
        c.readWell("(fun f () int (let y 1 " + lets(23) + "x" + ends(25));
        c.fault(2, "(fun f () int (let y 1 " + lets(23) + "(let ^x 1 2");
        c.readWell("(fun f () int (case " + full + full + "(h t 1)))");
        c.readWell("(fun f () int (case 1 2 (h t " + lets(22) + "x" + ends(22) + ")))");
        c.fault(2, "(fun f () int (case 1 2 (h t " + lets(22) + "(let ^x");
        c.readWell("(chg f () int (read " + full + " x (write " + lets(23) + "x" + ends(23) + ")))");
        c.fault(2, "(chg f () int (read " + full + " x (write " + lets(23) + "(let ^x");
        c.readWell("(chg f () int (let y " + full + " (write " + lets(23) + "x" + ends(23) + ")))");
        c.readWell("(chg f () int (case " + full + "(write " + full + ")(h t (write " + lets(22) + "x" + ends(22) + "))))");
        c.fault(2, "(chg f () int (case 1 (write 1)(h t (write " + lets(22) + "(let ^x");
        // They end with their expression, and those outside an imod or lmod are there in it, too.
        c.readWell("(fun f () int (call g " + full + full + full + "))");
        c.readWell("(fun f () int (if " + full + full + full + "))");
        c.readWell("(fun f () int " + full + ")(fun g () int " + full + ")");
        c.readWell("(fun f () int " + lets(23) + "(imod (read 1 x (write x)))" + ends(24));
        c.fault(2, "(fun f () int " + lets(23) + "(imod (read 1 x (read 1 ^x");
        c.fault(2, "(fun f () int " + lets(24) + "(lmod (let ^x");
        c.fault(2, "(fun f () int (imod (write " + lets(24) + "(let ^x");
    }

    private static void oneVariableMore() {
        c.sentence("promises 4, 11", "one more than 24 variables (its NAME)");
        String open = "(fun f () int " + lets(24);
        c.fault(2, open + "(let ^x");
        c.fault(2, open + "(let \n ^yy 0 !");
        c.fault(2, open + "(let ^zzzzzzzzzzzz 0 1" + ends(26));
        c.fault(3, open + "(let^");
        c.fault(1, open + "(let ^x1");
        c.fault(1, open + "(let ^abcdefghijklm");
        c.fault(2, open + "(let ^1");
        c.fault(2, open + "(let ^nil");
        c.fault(2, open + "(case 1 2 (^h");
        c.fault(3, open + "(case 1 2 (^");
        c.fault(2, "(fun f () int " + lets(23) + "(case 1 2 (h ^t");
        c.fault(2, "(fun f () int " + lets(23) + "(case 1 2 (h ^h");
        c.fault(2, "(fun f () int " + lets(23) + "(case 1 2 (h ^)");
        c.fault(3, "(fun f () int " + lets(23) + "(case 1 2 (h^");
        // A NAME that is no variable's is not one more.
        c.readWell(open + "(call g x y)" + ends(25));
        c.readWell(open + "(imod (jump g x y))" + ends(25));
        TwoLevelParser x = c.readWell(open + "y" + ends(25));
        c.due("name(48, 0)", x.name(48, 0), 25);
    }
}
