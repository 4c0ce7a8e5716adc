/** Promises 8, 9 and 10: node, name, number. */
public final class Promise08To10NodesTest {
    private static final Checks c = new Checks("promises 8 to 10");
    private static final int[] FAR = {Integer.MIN_VALUE, -1, -2, 1000000, 1 << 28, Integer.MAX_VALUE};

    public static void main(String[] args) {
        oneOfEachE();
        oneOfEachC();
        definitionsOneBehindTheOther();
        variables();
        numbers();
        names();
        noneSuch();
        c.end();
    }

    private static void node(TwoLevelParser x, int k, int... due) {
        for (int w = 0; w < due.length; w++) {
            c.due("node(" + k + ", " + w + ")", x.node(k, w), due[w]);
        }
    }

    private static void oneOfEachE() {
        String[] e = {"7", "x", "nil", "(add 1 2)", "(sub 1 2)", "(mul 1 2)", "(div 1 2)", "(rem 1 2)",
            "(less 1 2)", "(same 1 2)", "(if 1 2 3)", "(let x 1 2)", "(case 1 2 (x y 3))", "(cons 1 2)",
            "(call g 1 2 3 4)", "(memo g)", "(imod (write 1))", "(lmod (write 1))"};
        int[] children = {0, 0, 0, 2, 2, 2, 2, 2, 2, 2, 3, 2, 3, 2, 4, 0, 1, 1};
        for (int kind = 0; kind < e.length; kind++) {
            TwoLevelParser x = c.readWell("(fun f () int " + e[kind] + ")");
            int size = kind == 16 || kind == 17 ? 3 : children[kind] + 1;
            c.due("look(4) of " + e[kind], x.look(4), size);
            boolean named = kind == 1 || kind == 11 || kind == 14 || kind == 15;
            int place = kind == 1 ? 14 : kind == 11 ? 19 : kind == 12 ? 25 : named ? 20 : -1;
            node(x, 0, kind, children[kind], size, 14, -1, place, kind == 12 ? 27 : -1, 0, -1);
        }
    }

    private static void oneOfEachC() {
        String[] t = {"(read 1 x (write 2))", "(write 1)", "(if 1 (write 2) (write 3))", "(let x 1 (write 2))",
            "(case 1 (write 2) (x y (write 3)))", "(jump f 1 2 3)"};
        int[][] due = {{18, 2, 4, 16, -1, 24, -1, 0}, {19, 1, 2, 16, -1, -1, -1, 0}, {20, 3, 6, 16, -1, -1, -1, 0},
            {21, 2, 4, 16, -1, 21, -1, 0}, {22, 3, 6, 16, -1, 35, 37, 0}, {23, 3, 4, 16, -1, 22, -1, 0}};
        for (int i = 0; i < t.length; i++) {
            TwoLevelParser x = c.readWell("(chg f ( )  int " + t[i] + ")");
            c.due("look(4) of " + t[i], x.look(4), due[i][2]);
            node(x, 0, due[i]);
        }
    }

    private static void definitionsOneBehindTheOther() {
        String text = "(fun f () int (add (mul a 2) (call g (imod (jump h b)) nil)))(chg g () int (write (if c 1 d)))";
        TwoLevelParser x = c.readWell(text);
        int[] kinds = {3, 5, 1, 0, 14, 16, 23, 1, 2, 19, 10, 1, 0, 1};
        int[] children = {2, 2, 0, 0, 2, 1, 1, 0, 0, 1, 3, 0, 0, 0};
        int[] sizes = {9, 3, 1, 1, 5, 3, 2, 1, 1, 5, 4, 1, 1, 1};
        int[] parents = {-1, 0, 1, 1, 0, 4, 5, 6, 4, -1, 9, 10, 10, 10};
        String[] first = {"(add", "(mul", "a 2", "2)", "(call", "(imod", "(jump", "b))", "nil", "(write", "(if c", "c 1",
            "1 d", "d)))"};
        c.due("look(4)", x.look(4), kinds.length);
        for (int k = 0; k < kinds.length; k++) {
            node(x, k, kinds[k], children[k], sizes[k], text.indexOf(first[k]), parents[k]);
        }
        c.due("definition(1, 3)", x.definition(1, 3), 9);
        c.due("node(4, 5)", x.node(4, 5), text.indexOf("g (imod"));
        c.due("node(6, 5)", x.node(6, 5), text.indexOf("h b"));
        c.due("node(13, 5)", x.node(13, 5), text.indexOf("d)))"));
    }

    private static void variables() {
        variablesOf("(fun f () int (let x 1 (let x 2 (add x 3))))", 0, 0, 1, 1, 2, 2, 2);
        variablesOf("(fun f ((a int)(b int)) int (case a b (a b (case 1 2 (c d 3)))))", 2, 2, 2, 4, 4, 4, 6);
        variablesOf("(fun f ((a int)) int (call g (let x x x) (let y y y) z))", 1, 1, 1, 2, 1, 1, 2, 1);
        variablesOf("(chg f () int (read (add x 1) x (let y x (case y (write 1) (h t (jump f h t))))))",
            0, 0, 0, 0, 1, 1, 2, 2, 2, 2, 4, 4, 4);
        variablesOf("(fun f ((a int)) int (let x 1 (imod (read x y (if y (write x) (jump f x))))))",
            1, 1, 2, 2, 2, 3, 3, 3, 3, 3, 3);
        variablesOf("(fun f ((a int)) int (if 1 2 3))", 1, 1, 1, 1);
        variablesOf("(chg f ((a int)) int (if 1 (write 2) (write 3)))", 1, 1, 1, 1, 1, 1);
        variablesOf("(fun f ((a int)(b int)) int (memo g (cons 1 (sub 2 3)) (lmod (write 4))))", 2, 2, 2, 2, 2, 2, 2, 2, 2);
        variablesOf("(fun f ((a int)) int 1)(fun g () int 1)(chg h ((a int)(b int)) int (write 1))", 1, 0, 2, 2);
    }

    private static void variablesOf(String text, int... due) {
        TwoLevelParser x = c.readWell(text);
        c.due("look(4) of " + text, x.look(4), due.length);
        for (int k = 0; k < due.length; k++) {
            c.due("node(" + k + ", 7) of " + text, x.node(k, 7), due[k]);
        }
    }

    private static void numbers() {
        String[] written = {"0", "-0", "-00", "7", "007", "-007", "2147483647", "-2147483648", "-2147483647",
            "1000000000", "0000000000000000000000000000002147483647", "-" + Checks.times(300, "0") + "2147483648",
            Checks.times(1000, "0")};
        int[] due = {0, 0, 0, 7, 7, -7, 2147483647, -2147483648, -2147483647, 1000000000, 2147483647, -2147483648, 0};
        for (int i = 0; i < written.length; i++) {
            TwoLevelParser x = c.readWell("(fun f () int (add " + written[i] + " 5))");
            c.due("number of " + written[i], x.number(1), due[i]);
            c.due("kind of " + written[i], x.node(1, 0), 0);
            c.due("number(0), an add", x.number(0), 0);
        }
        TwoLevelParser x = c.readWell("(fun f () int (add a nil))");
        c.due("number of an X", x.number(1), 0);
        c.due("number of nil", x.number(2), 0);
    }

    private static void names() {
        TwoLevelParser x = c.readWell("(fun f () int (call zzzzzzzzzzzz nil 1 a (memo abcdefghijkl) (let bc 1 2)"
            + " (case 1 2 (hd tl 3)) (imod (read 1 rd (jump go)))))");
        String[] due = {"zzzzzzzzzzzz", "", "", "a", "abcdefghijkl", "bc", "", "", "hd", "", "", "", "", "rd", "", "go"};
        c.due("look(4)", x.look(4), due.length);
        for (int k = 0; k < due.length; k++) {
            c.due("name(" + k + ", 0)", x.name(k, 0), Checks.nameOf(due[k]));
            c.due("name(" + k + ", 1)", x.name(k, 1), k == 8 ? Checks.nameOf("tl") : 0);
            c.due("name(" + k + ", 2)", x.name(k, 2), 0);
            c.due("name(" + k + ", -1)", x.name(k, -1), 0);
            c.due("node(" + k + ", 5) is there with a NAME", x.node(k, 5) >= 0, !due[k].isEmpty());
            c.due("node(" + k + ", 6) is there with a second NAME", x.node(k, 6) >= 0, k == 8);
        }
        c.due("name as a long", x.name(5, 0), 2 * 32 + 3);
    }

    private static void noneSuch() {
        TwoLevelParser x = c.readWell("(fun f () int (add -3 (case 1 2 (h t 3))))");
        for (int far : FAR) {
            for (int w = 0; w < 8; w++) {
                c.due("node(" + far + ", " + w + ")", x.node(far, w), -1);
            }
            c.due("node(0, " + far + ")", x.node(0, far), -1);
            c.due("name(" + far + ", 0)", x.name(far, 0), 0);
            c.due("name(2, " + far + ")", x.name(2, far), 0);
            c.due("number(" + far + ")", x.number(far), 0);
        }
        for (int w = 8; w < 24; w++) {
            c.due("node(1, " + w + ")", x.node(1, w), -1);
        }
        c.due("node(6, 0)", x.node(6, 0), -1);
        c.due("name(6, 0)", x.name(6, 0), 0);
        c.due("number(6)", x.number(6), 0);
        c.due("node(5, 0)", x.node(5, 0), 0);
    }
}
