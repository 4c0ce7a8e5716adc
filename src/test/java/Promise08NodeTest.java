/** Promise 8: node. */
public final class Promise08NodeTest {
    private static final Checks c = new Checks("promise 8");

    public static void main(String[] args) {
        oneOfEachE();
        oneOfEachC();
        howMany();
        firstOfADefinition();
        placesOfNames();
        secondNames();
        variables();
        noSuchNode();
        noSuchW();
        c.end();
    }

    private static void node(TwoLevelParser x, int k, int... due) {
        for (int w = 0; w < due.length; w++) {
            c.due("node(" + k + ", " + w + ")", x.node(k, w), due[w]);
        }
    }

    private static void oneOfEachE() {
        c.sentence("promise 8", "w = 0: its kind");
        String[] e = {"7", "x", "nil", "(add 1 2)", "(sub 1 2)", "(mul 1 2)", "(div 1 2)", "(rem 1 2)",
            "(less 1 2)", "(same 1 2)", "(if 1 2 3)", "(let x 1 2)", "(case 1 2 (x y 3))", "(cons 1 2)",
            "(call g 1 2 3 4)", "(memo g)", "(imod (write 1))", "(lmod (write 1))"};
        int[] children = {0, 0, 0, 2, 2, 2, 2, 2, 2, 2, 3, 2, 3, 2, 4, 0, 1, 1};
        for (int kind = 0; kind < e.length; kind++) {
            TwoLevelParser x = c.readWell("(fun f () int " + e[kind] + ")");
            int size = kind == 16 || kind == 17 ? 3 : children[kind] + 1;
            c.due("look(4) of " + e[kind], x.look(4), size);
            boolean named = kind == 1 || kind == 11 || kind == 14 || kind == 15;
            int place = kind == 1 ? 14 : kind == 11 ? 19 : kind == 12 ? 25 : named ? 20 : -1;
            node(x, 0, kind, children[kind], size, 14, -1, place, kind == 12 ? 27 : -1, 0, -1);
        }
    }

    private static void oneOfEachC() {
        c.sentence("promise 8", "w = 0: its kind");
        String[] t = {"(read 1 x (write 2))", "(write 1)", "(if 1 (write 2) (write 3))", "(let x 1 (write 2))",
            "(case 1 (write 2) (x y (write 3)))", "(jump f 1 2 3)"};
        int[][] due = {{18, 2, 4, 16, -1, 24, -1, 0}, {19, 1, 2, 16, -1, -1, -1, 0}, {20, 3, 6, 16, -1, -1, -1, 0},
            {21, 2, 4, 16, -1, 21, -1, 0}, {22, 3, 6, 16, -1, 35, 37, 0}, {23, 3, 4, 16, -1, 22, -1, 0}};
        for (int i = 0; i < t.length; i++) {
            TwoLevelParser x = c.readWell("(chg f ( )  int " + t[i] + ")");
            c.due("look(4) of " + t[i], x.look(4), due[i][2]);
            node(x, 0, due[i]);
        }
    }

    private static void howMany() {
        c.sentence("promise 8", "1: how many NODES it has at once, 2: in all, with itself");
        node(c.readWell("(fun f () int 1)"), 0, 0, 0, 1);
        node(c.readWell("(fun f () int (call g))"), 0, 14, 0, 1);
        node(c.readWell("(fun f () int (call g 1))"), 0, 14, 1, 2);
        TwoLevelParser x = c.readWell("(fun f () int (call g (call g (call g) 1) (call g)))");
        node(x, 0, 14, 2, 5);
        node(x, 1, 14, 2, 3);
        node(x, 2, 14, 0, 1);
        node(x, 3, 0, 0, 1);
        node(x, 4, 14, 0, 1);
        x = c.readWell("(fun f () int (call g" + Checks.times(1900, " 1") + "))");
        node(x, 0, 14, 1900, 1901);
        node(x, 1900, 0, 0, 1);
        // The NODES of the DEFINITIONS before and behind are not among them.
        x = c.readWell("(fun f () int (add 1 2))(fun g () int (imod (write 1)))(fun h () int (add 3 4))");
        node(x, 3, 16, 1, 3);
        node(x, 0, 3, 2, 3);
        node(x, 6, 3, 2, 3);
    }

    private static void firstOfADefinition() {
        c.sentence("promise 8", "4: the NODE that it is in at once (NONE for the first of a DEFINITION)");
        TwoLevelParser x = c.readWell("(fun f () int 1)(chg g () int (write (add 2 3)))(fun h () int (if 1 2 (let x 3 4)))"
            + "(fun i () int nil)");
        int[] due = {-1, -1, 1, 2, 2, -1, 5, 5, 5, 8, 8, -1};
        c.due("look(4)", x.look(4), due.length);
        for (int k = 0; k < due.length; k++) {
            c.due("node(" + k + ", 4)", x.node(k, 4), due[k]);
        }
        x = c.readWell(Checks.definitions(64));
        for (int k = 0; k < 64; k++) {
            c.due("node(" + k + ", 4) of 64", x.node(k, 4), -1);
        }
    }

    private static void placesOfNames() {
        c.sentence("promise 8", "3: the place of its first TOKEN");
        for (int n : new int[] {0, 1, 100, 3900}) {
            String blanks = Checks.times(n, " ");
            TwoLevelParser x = c.readWell("(fun f()int(add" + blanks + " 1 x))");
            c.due("node(0, 3)", x.node(0, 3), 11);
            c.due("node(1, 3)", x.node(1, 3), 16 + n);
            c.due("node(2, 3)", x.node(2, 3), 18 + n);
            c.due("node(2, 5)", x.node(2, 5), 18 + n);
        }
        c.sentence("promise 8", "5: the place of its NAME");
        for (Words.NamePlace at : Words.NamePlace.values()) {
            if (!at.isTitle() && !at.isParameter()) {
                for (String name : new String[] {"a", "zzzzzzzzzzzz"}) {
                    TwoLevelParser x = c.readWell(at.with(" \n" + name));
                    c.due("the place in " + at.with(name), at.placeIn(x), at.place() + 2);
                }
            }
        }
        String[] without = {"1", "nil", "(add 1 2)", "(sub 1 2)", "(mul 1 2)", "(div 1 2)", "(rem 1 2)", "(less 1 2)", "(same 1 2)",
            "(if 1 2 3)", "(cons 1 2)", "(imod (write 1))", "(lmod (write 1))"};
        for (String e : without) {
            c.due("node(0, 5) of " + e, c.readWell("(fun f () int " + e + ")").node(0, 5), -1);
        }
        c.due("node(0, 5) of a write", c.readWell("(chg f () int (write 1))").node(0, 5), -1);
        c.due("node(0, 5) of an if", c.readWell("(chg f () int (if 1 (write 1) (write 1)))").node(0, 5), -1);
    }

    private static void secondNames() {
        c.sentence("promise 8", "6: of its second one (a case; NONE without)");
        TwoLevelParser x = c.readWell("(fun f () int (case x y (h t (case z z (a   b c)))))");
        c.due("node(0, 5)", x.node(0, 5), 25);
        c.due("node(0, 6)", x.node(0, 6), 27);
        c.due("node(3, 5)", x.node(3, 5), 40);
        c.due("node(3, 6)", x.node(3, 6), 44);
        x = c.readWell("(chg f () int (case x (write y) (h t (write z))))");
        c.due("node(0, 6) of a C", x.node(0, 6), 35);
        for (Words.NamePlace at : Words.NamePlace.values()) {
            boolean ofCase = at.name().startsWith("CASE");
            if (!ofCase && !at.isTitle() && !at.isParameter()) {
                c.due("node(0, 6) of " + at, c.readWell(at.with("x")).node(0, 6), -1);
            }
        }
        c.due("node(0, 6) of a NUMBER", c.readWell("(fun f () int 1)").node(0, 6), -1);
        c.due("node(0, 6) of an if", c.readWell("(fun f () int (if 1 2 3))").node(0, 6), -1);
    }

    private static void variables() {
        c.sentence("promise 8", "7: how many variables are there (its own ones not among them)");
        variablesOf("(fun f () int 1)", 0);
        variablesOf("(fun f (" + Checks.parameters(8) + ") int 1)", 8);
        variablesOf("(fun f () int (let x 1 (let x 2 (add x 3))))", 0, 0, 1, 1, 2, 2, 2);
        variablesOf("(fun f ((a int)(b int)) int (case a b (a b (case 1 2 (c d 3)))))", 2, 2, 2, 4, 4, 4, 6);
        variablesOf("(fun f ((a int)) int (call g (let x x x) (let y y y) z))", 1, 1, 1, 2, 1, 1, 2, 1);
        variablesOf("(chg f () int (read (add x 1) x (let y x (case y (write 1) (h t (jump f h t))))))",
            0, 0, 0, 0, 1, 1, 2, 2, 2, 2, 4, 4, 4);
        variablesOf("(fun f ((a int)) int (let x 1 (imod (read x y (if y (write x) (jump f x))))))",
            1, 1, 2, 2, 2, 3, 3, 3, 3, 3, 3);
        variablesOf("(fun f ((a int)) int (if 1 2 3))", 1, 1, 1, 1);
        variablesOf("(chg f ((a int)) int (if 1 (write 2) (write 3)))", 1, 1, 1, 1, 1, 1);
        variablesOf("(fun f ((a int)(b int)) int (memo g (cons 1 (sub 2 3)) (lmod (write 4))))", 2, 2, 2, 2, 2, 2, 2, 2, 2);
        variablesOf("(fun f ((a int)) int 1)(fun g () int 1)(chg h ((a int)(b int)) int (write 1))", 1, 0, 2, 2);
        // Full: the last let has 23 round it, and 24 are in it.
        TwoLevelParser x = c.readWell("(fun f () int " + Checks.times(24, "(let x 0 ") + "x" + Checks.times(25, ")"));
        for (int n = 0; n < 24; n++) {
            c.due("node(" + 2 * n + ", 7)", x.node(2 * n, 7), n);
            c.due("node(" + (2 * n + 1) + ", 7)", x.node(2 * n + 1, 7), n);
        }
        c.due("node(48, 7)", x.node(48, 7), 24);
    }

    private static void variablesOf(String text, int... due) {
        TwoLevelParser x = c.readWell(text);
        c.due("look(4) of " + text, x.look(4), due.length);
        for (int k = 0; k < due.length; k++) {
            c.due("node(" + k + ", 7) of " + text, x.node(k, 7), due[k]);
        }
    }

    private static void noSuchNode() {
        c.sentence("promise 8", "NONE if there is none such, or no such w.");
        for (int n : new int[] {0, 1, 3, 4, 5, 16, 1000}) {
            String text = n == 0 ? "" : "(fun f () int (call g" + Checks.times(n - 1, " 1") + "))";
            for (int w = 0; w <= 7; w++) {
                TwoLevelParser x = c.readWell(text);
                if (n > 0) {
                    c.due("node(n - 1, 0) of " + n, x.node(n - 1, 0), n == 1 ? 14 : 0);
                    c.due("node(n - 1, 2) of " + n, x.node(n - 1, 2), 1);
                }
                for (int k : Checks.outside(n)) {
                    c.due("node(" + k + ", " + w + ") of " + n, x.node(k, w), -1);
                }
            }
        }
    }

    private static void noSuchW() {
        c.sentence("promise 8", "or no such w");
        TwoLevelParser x = c.readWell("(fun f ((a int)) int (add -3 (case 1 2 (h t 3))))");
        for (int k = 0; k < 6; k++) {
            c.due("node(" + k + ", 0)", x.node(k, 0) >= 0, true);
            c.due("node(" + k + ", 7)", x.node(k, 7), k == 5 ? 3 : 1);
            for (int w = 8; w < 30; w++) {
                c.due("node(" + k + ", " + w + ")", x.node(k, w), -1);
            }
            // A w below 0 must not reach into the NODE before.
            for (int w = -20; w < 0; w++) {
                c.due("node(" + k + ", " + w + ")", x.node(k, w), -1);
            }
        }
        for (int w : Checks.outside(8)) {
            c.due("node(1, " + w + ")", x.node(1, w), -1);
        }
        c.due("node(6, 8)", x.node(6, 8), -1);
        c.due("node(-1, -1)", x.node(-1, -1), -1);
    }
}
