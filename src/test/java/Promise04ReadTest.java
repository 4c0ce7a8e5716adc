/** Promise 4: read, what it keeps and what it drops. The Terms tests have the faults. */
public final class Promise04ReadTest {
    private static final Checks c = new Checks("promise 4");

    public static void main(String[] args) {
        textStays();
        zeroOrTheFault();
        goneOnlyThen();
        goneThen();
        nothingWithAFault();
        rowsAreUsedAgain();
        manyThenFew();
        c.end();
    }

    private static void textStays() {
        c.sentence("promise 4", "The TEXT (which stays) is read");
        TwoLevelParser x = c.readWell("(fun f () int 1)");
        c.due("look(0)", x.look(0), 16);
        c.due("read() again", x.read(), 0);
        c.due("look(3)", x.look(3), 1);
        Checks.give(x, "(fun g () int 2)");
        c.due("read() of more", x.read(), 0);
        c.due("look(0) of more", x.look(0), 32);
        c.due("look(3) of more", x.look(3), 2);
        Checks.give(x, "(fun f () int 3)");
        c.due("read() of one too many", x.read(), 2);
        c.due("look(0)", x.look(0), 48);
        c.due("read() again", x.read(), 2);
        c.due("look(2)", x.look(2), 37);
        c.due("look(0)", x.look(0), 48);
        x = new TwoLevelParser();
        c.due("read() of none", x.read(), 0);
        c.due("look(0) of none", x.look(0), 0);
        c.due("read() of none again", x.read(), 0);
        // Given in two parts, with a read() between them, a TEXT is what it is in one.
        String text = "(fun f ((ab int)) int (add ab -12))";
        String told = Checks.answers(c.readWell(text));
        for (int cut = 0; cut <= text.length(); cut++) {
            x = Checks.given(text.substring(0, cut));
            c.due("read() up to " + cut, x.read() == 0, cut == 0 || cut == text.length());
            Checks.give(x, text.substring(cut));
            c.due("read() cut at " + cut, x.read(), 0);
            c.due("all that it tells, cut at " + cut, Checks.answers(x), told);
        }
    }

    private static void zeroOrTheFault() {
        c.sentence("promise 4", "0, or the fault");
        String[] right = {"", " ", "\n", "(fun f()int 1)", "(fun f()int(add 1 2))", "( fun\nf ( ( x int ) ) int\n( add x x ) )\n",
            "(fun f((x int)(y lmod))int(cons(imod(write 1))nil))", "(fun f()int -1)(chg g()int(write -1))",
            "(fun f ((f int)) imod f)", "(fun funs ((intx int)) lmod (let ifs ifs (call chgs)))",
            "(fun f () int(call g))", "(fun f () int(memo f x x x x x x x x x x x x x))",
            "(fun f ((a int)) int a)(fun g ((a int)) int a)", "(chg f () list (jump f))",
            "(fun f () int (let x 1 (let x 2 (let x 3 x))))", "(fun abcdefghijkl () int abcdefghijkl)",
            "(fun f ((x int)) int (case x (case x x (x y x)) (y x (case x x (x y x)))))"};
        for (String text : right) {
            c.readWell(text);
        }
        c.fault(1, "^.");
        c.fault(2, "^)");
        c.fault(3, "(^");
        c.fault(1, "(fun f () int 1)^.");
        c.fault(2, "(fun f () int 1)^)");
        c.fault(3, "(fun f () int 1)(^");
    }

    private static void goneOnlyThen() {
        c.sentence("promise 4", "what was read before is gone (only then)");
        TwoLevelParser x = c.readWell("(fun f ((a list)) imod (imod (write 1)))");
        String told = Checks.readAnswers(x);
        Checks.give(x, "!");
        c.due("what was read, after give", Checks.readAnswers(x), told);
        c.due("look(1) before read()", x.look(1), 0);
        c.due("look(2) before read()", x.look(2), -1);
        c.due("give of none", x.give(0, 0), false);
        c.due("what was read, after a refused give", Checks.readAnswers(x), told);
        x.wipe();
        c.due("what was read, after wipe", Checks.readAnswers(x), told);
        Checks.give(x, "(");
        c.due("what was read, after another TEXT", Checks.readAnswers(x), told);
        c.due("read()", x.read(), 3);
        c.nothingRead("a fault", x);
    }

    private static void goneThen() {
        c.sentence("promise 4", "what was read before is gone (only then)");
        TwoLevelParser x = c.readWell("(fun f ((a int)(b int)) int (case 1 2 (h t -3)))(chg g () int (jump f))");
        x.wipe();
        c.due("read() of an empty TEXT", x.read(), 0);
        c.nothingRead("an empty TEXT", x);
        Checks.give(x, " ");
        c.due("read() of a blank", x.read(), 0);
        c.nothingRead("a blank", x);
        // After a fault, what was read before the fault does not come back.
        x = c.readWell("(fun f () int 1)");
        Checks.give(x, ")");
        c.due("read() with a fault", x.read(), 2);
        x.wipe();
        c.due("read() of nothing", x.read(), 0);
        c.nothingRead("nothing after a fault", x);
        Checks.give(x, "(fun g () list nil)");
        c.due("read()", x.read(), 0);
        c.due("title(0, -1)", x.title(0, -1), 7);
        c.due("look(3)", x.look(3), 1);
    }

    private static void nothingWithAFault() {
        c.sentence("promise 4", "and with a fault there is nothing");
        String right = "(fun f ((a int)) int (add a 1))(chg g () int (write 2))";
        String[] spoilt = {right + "!", right + ")", right + "(", right.substring(0, right.length() - 1),
            Checks.definitions(64) + "(", Checks.definitions(63) + "(fun vaav () int 1)"};
        int[] faults = {1, 2, 3, 3, 2, 2};
        for (int i = 0; i < spoilt.length; i++) {
            TwoLevelParser x = Checks.given(spoilt[i]);
            c.due("read() of " + spoilt[i], x.read(), faults[i]);
            c.nothingRead("a fault in " + spoilt[i], x);
            c.due("title(1, -1)", x.title(1, -1), 0);
            c.due("node(1, 0)", x.node(1, 0), -1);
            x.wipe();
            Checks.give(x, right);
            c.nothingRead("a fault and a new TEXT", x);
            c.due("look(1) is that of the latest read()", x.look(1), faults[i]);
            c.due("read()", x.read(), 0);
            c.due("all that it tells", Checks.answers(x), Checks.answers(c.readWell(right)));
        }
    }

    private static void rowsAreUsedAgain() {
        c.sentence("promise 4", "what was read before is gone");
        TwoLevelParser x = c.readWell("(fun f ((a int)(b list)) int (case a b (c d -9)))(fun g () int nil)");
        x.wipe();
        Checks.give(x, "(chg h () list (if 1 (write 2) (jump h)))");
        c.due("read()", x.read(), 0);
        c.due("all that it tells", Checks.answers(x), Checks.answers(c.readWell("(chg h () list (if 1 (write 2) (jump h)))")));
        c.due("title(0, 0)", x.title(0, 0), 0);
        c.due("title(0, 1)", x.title(0, 1), 0);
        c.due("parameter(0, 0)", x.parameter(0, 0), -1);
        c.due("title(1, -1)", x.title(1, -1), 0);
        c.due("node(0, 5)", x.node(0, 5), -1);
        c.due("node(0, 6)", x.node(0, 6), -1);
        c.due("name(0, 0)", x.name(0, 0), 0);
        c.due("name(0, 1)", x.name(0, 1), 0);
        c.due("name(1, 0)", x.name(1, 0), 0);
        c.due("number(3)", x.number(3), 2);
        c.due("number(2)", x.number(2), 0);
        c.due("number(5)", x.number(5), 0);
    }

    private static void manyThenFew() {
        c.sentence("promise 4", "what was read before is gone");
        TwoLevelParser x = c.readWell(Checks.definitions(64));
        x.wipe();
        Checks.give(x, "(fun f () int 5)");
        c.due("read()", x.read(), 0);
        c.due("look(3)", x.look(3), 1);
        for (int d : new int[] {1, 2, 62, 63, 64}) {
            c.due("definition(" + d + ", 0)", x.definition(d, 0), -1);
            c.due("title(" + d + ", -1)", x.title(d, -1), 0);
            c.due("node(" + d + ", 0)", x.node(d, 0), -1);
            c.due("number(" + d + ")", x.number(d), 0);
        }
        x.wipe();
        Checks.give(x, Checks.definitions(2));
        c.due("read() of 2", x.read(), 0);
        c.due("title(1, -1)", x.title(1, -1), Checks.nameOf(Checks.nameOfNumber(1)));
        c.due("title(2, -1)", x.title(2, -1), 0);
    }
}
