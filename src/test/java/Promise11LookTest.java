/** Promise 11: look. */
public final class Promise11LookTest {
    private static final Checks c = new Checks("promise 11");

    public static void main(String[] args) {
        inTurn();
        bytes();
        faultsAndPlaces();
        definitionsAndNodes();
        anyOther();
        c.end();
    }

    private static void looks(TwoLevelParser x, int... due) {
        for (int which = 0; which < due.length; which++) {
            c.due("look(" + which + ")", x.look(which), due[which]);
        }
        c.due("look(-1)", x.look(-1), -1);
        c.due("look(5)", x.look(5), -1);
    }

    private static void inTurn() {
        c.sentence("promise 11",
            "which 0: bytes of the TEXT, 1: the fault of the latest read() (0 without one), 2: its place (NONE without one), 3: DEFINITIONS, 4: NODES.");
        TwoLevelParser x = new TwoLevelParser();
        looks(x, 0, 0, -1, 0, 0);
        Checks.give(x, "(fun f () int (add 1 2))(chg g () int (write 1))");
        looks(x, 48, 0, -1, 0, 0);
        c.due("read()", x.read(), 0);
        looks(x, 48, 0, -1, 2, 5);
        Checks.give(x, "(fun h");
        looks(x, 54, 0, -1, 2, 5);
        c.due("read()", x.read(), 3);
        looks(x, 54, 3, 54, 0, 0);
        Checks.give(x, " 1");
        looks(x, 56, 3, 54, 0, 0);
        c.due("read()", x.read(), 2);
        looks(x, 56, 2, 55, 0, 0);
        x.wipe();
        looks(x, 0, 2, 55, 0, 0);
        Checks.give(x, "%");
        c.due("read()", x.read(), 1);
        looks(x, 1, 1, 0, 0, 0);
        x.wipe();
        c.due("read()", x.read(), 0);
        looks(x, 0, 0, -1, 0, 0);
    }

    private static void bytes() {
        c.sentence("promise 11", "which 0: bytes of the TEXT");
        for (int n : new int[] {0, 1, 2, 7, 8, 9, 63, 64, 65, 127, 128, 129, 4000, 8191, 8192}) {
            c.due("look(0) of " + n, Checks.given(Checks.times(n, "x")).look(0), n);
        }
        TwoLevelParser x = Checks.given(Checks.times(8192, "x"));
        c.due("give to a full TEXT", x.give(32, 1), false);
        c.due("look(0) of a full TEXT", x.look(0), 8192);
    }

    private static void faultsAndPlaces() {
        c.sentence("promise 11", "1: the fault of the latest read() (0 without one), 2: its place (NONE without one)");
        // The place 0 is one; without a fault it is NONE.
        looks(c.fault(1, "^!"), 1, 1, 0, 0, 0);
        looks(c.fault(2, "^)"), 1, 2, 0, 0, 0);
        looks(c.fault(3, "(^"), 1, 3, 1, 0, 0);
        looks(c.readWell(""), 0, 0, -1, 0, 0);
        looks(c.readWell("\n"), 1, 0, -1, 0, 0);
        TwoLevelParser x = c.fault(2, "(fun f () int 1^(");
        looks(x, 16, 2, 15, 0, 0);
        x.wipe();
        Checks.give(x, "(fun f () int 1)");
        looks(x, 16, 2, 15, 0, 0);
        c.due("give(33, 9)", x.give(33, 9), false);
        looks(x, 16, 2, 15, 0, 0);
        c.due("read()", x.read(), 0);
        looks(x, 16, 0, -1, 1, 1);
    }

    private static void definitionsAndNodes() {
        c.sentence("promise 11", "3: DEFINITIONS, 4: NODES");
        for (int n : new int[] {0, 1, 2, 63, 64}) {
            TwoLevelParser x = c.readWell(Checks.definitions(n));
            c.due("look(3) of " + n, x.look(3), n);
            c.due("look(4) of " + n, x.look(4), n);
            c.due("look(2) of " + n, x.look(2), -1);
        }
        TwoLevelParser x = c.fault(2, Checks.definitions(64) + "^(fun f () int 1)");
        c.due("look(3) of 65", x.look(3), 0);
        c.due("look(4) of 65", x.look(4), 0);
        for (int n : new int[] {0, 1, 1900}) {
            x = c.readWell("(fun f () int (call g" + Checks.times(n, " 1") + "))");
            c.due("look(3)", x.look(3), 1);
            c.due("look(4)", x.look(4), n + 1);
        }
    }

    private static void anyOther() {
        c.sentence("promise 11", "NONE for any other which.");
        TwoLevelParser[] all = {new TwoLevelParser(), c.readWell("(fun f () int (add 1 2))"), c.fault(2, "(fun ^fun")};
        for (TwoLevelParser x : all) {
            for (int which : Checks.outside(5)) {
                c.due("look(" + which + ")", x.look(which), -1);
            }
            for (int which = 5; which < 40; which++) {
                c.due("look(" + which + ")", x.look(which), -1);
                c.due("look(" + (4 - which) + ")", x.look(4 - which), -1);
            }
        }
    }
}
