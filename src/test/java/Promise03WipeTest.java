/** Promise 3: wipe empties the TEXT, and touches nothing else. */
public final class Promise03WipeTest {
    private static final Checks c = new Checks("promise 3");

    public static void main(String[] args) {
        lengths();
        nothingComesBack();
        roomIsWholeAgain();
        whatWasReadStays();
        theFaultStays();
        c.end();
    }

    private static void lengths() {
        c.sentence("promise 3", "The TEXT is empty.");
        // Empty, the least, next to where a row may end, and full.
        for (int bytes : new int[] {0, 1, 7, 8, 9, 63, 64, 65, 1000, 8191, 8192}) {
            TwoLevelParser x = Checks.given(Checks.times(bytes, "("));
            c.due("look(0) of " + bytes, x.look(0), bytes);
            x.wipe();
            c.due("look(0) of " + bytes + " wiped", x.look(0), 0);
            x.wipe();
            c.due("look(0) of " + bytes + " wiped twice", x.look(0), 0);
            c.due("read() of " + bytes + " wiped", x.read(), 0);
            c.due("look(2) of " + bytes + " wiped", x.look(2), -1);
            c.nothingRead("wiped", x);
        }
    }

    private static void nothingComesBack() {
        c.sentence("promise 3", "The TEXT is empty.");
        TwoLevelParser x = Checks.given("(fun f () int 1)(fun g () int 1)");
        x.wipe();
        Checks.give(x, "(fun f () int 1)");
        c.due("look(0)", x.look(0), 16);
        c.due("read()", x.read(), 0);
        c.due("look(3)", x.look(3), 1);
        x.wipe();
        Checks.give(x, "(");
        c.due("look(0)", x.look(0), 1);
        c.due("read()", x.read(), 3);
        c.due("look(2)", x.look(2), 1);
        x.wipe();
        Checks.give(x, "(fun f () int 1");
        x.wipe();
        Checks.give(x, ")");
        c.due("read()", x.read(), 2);
        c.due("look(2)", x.look(2), 0);
        // A NUMBER must not go on in bytes that are wiped.
        x.wipe();
        Checks.give(x, "(fun f () int 123456)");
        x.wipe();
        Checks.give(x, "(fun f () int 1");
        c.due("read()", x.read(), 3);
        c.due("look(2)", x.look(2), 15);
    }

    private static void roomIsWholeAgain() {
        c.sentence("promises 2, 3", "The TEXT is empty.");
        TwoLevelParser x = Checks.given(Checks.times(8192, " "));
        c.due("give(32, 1) to the full TEXT", x.give(32, 1), false);
        x.wipe();
        c.due("8192 bytes after wipe", Checks.give(x, Checks.times(8192, "\n")), true);
        c.due("look(0)", x.look(0), 8192);
        c.due("give(32, 1) to the full TEXT", x.give(32, 1), false);
        c.due("read()", x.read(), 0);
    }

    private static void whatWasReadStays() {
        c.sentence("promises 3, 4", "what was read before is gone (only then)");
        TwoLevelParser x = c.readWell("(chg g ((p lmod)) list (write 5))");
        String told = Checks.readAnswers(x);
        x.wipe();
        c.due("look(0)", x.look(0), 0);
        c.due("look(1)", x.look(1), 0);
        c.due("look(2)", x.look(2), -1);
        c.due("what was read", Checks.readAnswers(x), told);
        x.wipe();
        Checks.give(x, "(fun f () int 1)");
        c.due("what was read, with another TEXT", Checks.readAnswers(x), told);
        c.due("number(1)", x.number(1), 5);
    }

    private static void theFaultStays() {
        c.sentence("promises 3, 11", "the fault of the latest read() (0 without one)");
        for (String marked : new String[] {"^!", "(fun f ^!", "(fun ^)", "(fun^", "^)"}) {
            int fault = marked.contains("!") ? 1 : marked.contains(")") ? 2 : 3;
            TwoLevelParser x = c.fault(fault, marked);
            x.wipe();
            c.due("look(0) of " + marked, x.look(0), 0);
            c.due("look(1) of " + marked, x.look(1), fault);
            c.due("look(2) of " + marked, x.look(2), marked.indexOf('^'));
            c.nothingRead("wiped after a fault", x);
            c.due("read() of nothing", x.read(), 0);
            c.due("look(1)", x.look(1), 0);
            c.due("look(2)", x.look(2), -1);
        }
    }
}
