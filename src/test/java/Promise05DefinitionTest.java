/** Promise 5: definition. */
public final class Promise05DefinitionTest {
    private static final Checks c = new Checks("promise 5");
    private static final String TEXT = " (fun one ((a int) (bc list) (d imod) (e lmod)) imod (add 1 2))\n"
        + "(chg two () list (write 3)) (fun three () lmod nil)"
        + "(chg four ((zzzzzzzzzzzz lmod)) int (jump one)) (fun five () list x) (fun six () int 1)";

    public static void main(String[] args) {
        answers();
        noSuchDefinition();
        noSuchW();
        parameters();
        firstNodes();
        places();
        c.end();
    }

    private static void answers() {
        c.sentence("promise 5", "w = 0: 0 fun, 1 chg, 1: its TYPE (0 int, 1 list, 2 imod, 3 lmod), 2: its parameters, 3: its first NODE, 4: the place of its NAME");
        TwoLevelParser x = c.readWell(TEXT);
        int[][] due = {
            {0, 2, 4, 0, TEXT.indexOf("one")}, {1, 1, 0, 3, TEXT.indexOf("two")},
            {0, 3, 0, 5, TEXT.indexOf("three")}, {1, 0, 1, 6, TEXT.indexOf("four")},
            {0, 1, 0, 7, TEXT.indexOf("five")}, {0, 0, 0, 8, TEXT.indexOf("six")}};
        for (int d = 0; d < due.length; d++) {
            for (int w = 0; w < 5; w++) {
                c.due("definition(" + d + ", " + w + ")", x.definition(d, w), due[d][w]);
            }
        }
    }

    private static void noSuchDefinition() {
        c.sentence("promise 5", "NONE if there is none such, or no such w.");
        for (int n : new int[] {0, 1, 2, 4, 5, 63, 64}) {
            String text = Checks.definitions(n);
            for (int w = 0; w <= 4; w++) {
                TwoLevelParser x = c.readWell(text);
                if (n > 0) {
                    c.due("definition(0, " + w + ") of " + n, x.definition(0, w) != -1, true);
                    c.due("definition(n - 1, " + w + ") of " + n, x.definition(n - 1, w) != -1, true);
                }
                for (int d : Checks.outside(n)) {
                    c.due("definition(" + d + ", " + w + ") of " + n, x.definition(d, w), -1);
                }
            }
        }
    }

    private static void noSuchW() {
        c.sentence("promise 5", "or no such w");
        TwoLevelParser x = c.readWell("(fun f (" + Checks.parameters(8) + ") int 1)(chg g () list (write 1))");
        for (int d = 0; d < 2; d++) {
            c.due("definition(" + d + ", 0)", x.definition(d, 0), d);
            c.due("definition(" + d + ", 4)", x.definition(d, 4) > 4, true);
            for (int w = 5; w < 30; w++) {
                c.due("definition(" + d + ", " + w + ")", x.definition(d, w), -1);
            }
            for (int w : Checks.outside(5)) {
                c.due("definition(" + d + ", " + w + ")", x.definition(d, w), -1);
            }
        }
        c.due("definition(-1, 5)", x.definition(-1, 5), -1);
        c.due("definition(2, -1)", x.definition(2, -1), -1);
        // A w below 0 must not reach into the DEFINITION before.
        for (int w = -20; w < 0; w++) {
            c.due("definition(1, " + w + ")", x.definition(1, w), -1);
        }
    }

    private static void parameters() {
        c.sentence("promise 5", "2: its parameters");
        for (int n = 0; n <= 8; n++) {
            TwoLevelParser x = c.readWell("(fun f (" + Checks.parameters(n) + ") int 1)(chg g (" + Checks.parameters(8 - n)
                + ") int (write 1))");
            c.due("definition(0, 2)", x.definition(0, 2), n);
            c.due("definition(1, 2)", x.definition(1, 2), 8 - n);
        }
    }

    private static void firstNodes() {
        c.sentence("promise 5", "3: its first NODE");
        for (int n : new int[] {0, 1, 2, 100, 1000}) {
            TwoLevelParser x = c.readWell("(fun f () int (call g" + Checks.times(n, " 1") + "))(fun g () int 2)(fun h () int 3)");
            c.due("definition(0, 3)", x.definition(0, 3), 0);
            c.due("definition(1, 3)", x.definition(1, 3), n + 1);
            c.due("definition(2, 3)", x.definition(2, 3), n + 2);
            c.due("number of the second one's first NODE", x.number(x.definition(1, 3)), 2);
        }
    }

    private static void places() {
        c.sentence("promise 5", "4: the place of its NAME");
        c.due("the first place that there is", c.readWell("(fun f()int 1)").definition(0, 4), 5);
        for (int n : new int[] {1, 2, 100, 4000}) {
            String blanks = Checks.times(n, " ");
            c.due("with blanks ahead", c.readWell(blanks + "(fun f()int 1)").definition(0, 4), n + 5);
            c.due("with blanks between", c.readWell("(fun" + blanks + "f()int 1)").definition(0, 4), n + 4);
        }
    }
}
