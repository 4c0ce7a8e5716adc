/** Promise 4: read, what it keeps and what it drops. FaultsTest and LimitsTest have the faults. */
public final class Promise04ReadTest {
    private static final Checks c = new Checks("promise 4");

    public static void main(String[] args) {
        texts();
        textStays();
        readBeforeIsGoneOnlyThen();
        rowsAreUsedAgain();
        c.end();
    }

    private static void texts() {
        String[] without = {"", " ", "\n", "  \n \n\n "};
        for (String text : without) {
            TwoLevelParser x = c.readWell(text);
            c.nothingRead("blanks", x);
        }
        String[] right = {
            "(fun f()int 1)", "(fun f()int(add 1 2))", "( fun\nf ( ( x int ) ) int\n( add x x ) )\n",
            "(fun f((x int)(y lmod))int(cons(imod(write 1))nil))", "(fun f()int -1)(chg g()int(write -1))",
            "(fun f ((f int)) imod f)", "(fun funs ((intx int)) lmod (let ifs ifs (call chgs)))",
            "(fun f () int(call g))", "(fun f () int(memo f x x x x x x x x x x x x x))",
            "(fun f ((a int)) int a)(fun g ((a int)) int a)", "(chg f () list (jump f))",
            "(fun f () int (let x 1 (let x 2 (let x 3 x))))", "(fun abcdefghijkl () int abcdefghijkl)",
            "(fun f ((x int)) int (case x (case x x (x y x)) (y x (case x x (x y x)))))"};
        for (String text : right) {
            TwoLevelParser x = c.readWell(text);
            c.due("look(1) of " + text, x.look(1), 0);
            c.due("look(2) of " + text, x.look(2), -1);
        }
    }

    private static void textStays() {
        TwoLevelParser x = c.readWell("(fun f () int 1)");
        c.due("look(0)", x.look(0), 16);
        c.due("read() again", x.read(), 0);
        c.due("look(3)", x.look(3), 1);
        Checks.give(x, "(fun g () int 2)");
        c.due("read() of more", x.read(), 0);
        c.due("look(3) of more", x.look(3), 2);
        Checks.give(x, "(fun f () int 3)");
        c.due("read() of one too many", x.read(), 2);
        c.due("look(0)", x.look(0), 48);
        c.due("read() again", x.read(), 2);
        c.due("look(2)", x.look(2), 37);
    }

    private static void readBeforeIsGoneOnlyThen() {
        TwoLevelParser x = c.readWell("(fun f ((a list)) imod (imod (write 1)))");
        Checks.give(x, "!");
        c.due("look(3) before read()", x.look(3), 1);
        c.due("look(4) before read()", x.look(4), 3);
        c.due("look(1) before read()", x.look(1), 0);
        c.due("definition(0, 1) before read()", x.definition(0, 1), 2);
        c.due("parameter(0, 0) before read()", x.parameter(0, 0), 1);
        c.due("give of none", x.give(0, 0), false);
        c.due("look(3) after a false one", x.look(3), 1);
        c.due("read()", x.read(), 1);
        c.nothingRead("a fault", x);
        x.wipe();
        Checks.give(x, "(fun f () int 1)");
        c.due("look(1) is that of the latest read()", x.look(1), 1);
        c.nothingRead("a fault and a new TEXT", x);
        c.due("read()", x.read(), 0);
        c.due("look(1)", x.look(1), 0);
        c.due("look(2)", x.look(2), -1);
        c.due("look(3)", x.look(3), 1);
    }

    private static void rowsAreUsedAgain() {
        TwoLevelParser x = c.readWell("(fun f ((a int)(b list)) int (case a b (c d -9)))(fun g () int nil)");
        x.wipe();
        Checks.give(x, "(chg h () list (if 1 (write 2) (jump h)))");
        c.due("read()", x.read(), 0);
        c.due("look(3)", x.look(3), 1);
        c.due("look(4)", x.look(4), 5);
        c.due("title(0, 0)", x.title(0, 0), 0);
        c.due("title(0, 1)", x.title(0, 1), 0);
        c.due("parameter(0, 0)", x.parameter(0, 0), -1);
        c.due("title(1, -1)", x.title(1, -1), 0);
        c.due("node(0, 5)", x.node(0, 5), -1);
        c.due("node(0, 6)", x.node(0, 6), -1);
        c.due("name(0, 0)", x.name(0, 0), 0);
        c.due("name(0, 1)", x.name(0, 1), 0);
        c.due("name(1, 0)", x.name(1, 0), 0);
        c.due("number(3)", x.number(3), 2);
        c.due("number(2)", x.number(2), 0);
    }
}
