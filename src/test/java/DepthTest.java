/** E and C stand in one another as deep as the TEXT has room, on a small stack. */
public final class DepthTest {
    private static final Checks c = new Checks("depth");

    public static void main(String[] args) throws InterruptedException {
        Thread small = new Thread(null, DepthTest::all, "small stack", 200 * 1024);
        small.start();
        small.join();
        c.end();
    }

    private static void all() {
        deepInFirst();
        deepInTurns();
        deepAndUnended();
        wide();
    }

    private static void deepInFirst() {
        int n = 640;
        TwoLevelParser x = c.readWell("(fun f()int " + Checks.times(n, "(add") + " 7" + Checks.times(n, " 1)") + ")");
        c.due("look(4)", x.look(4), 2 * n + 1);
        c.due("node(0, 2)", x.node(0, 2), 2 * n + 1);
        c.due("node(n, 0)", x.node(n, 0), 0);
        c.due("number(n)", x.number(n), 7);
        c.due("node(n, 4)", x.node(n, 4), n - 1);
        c.due("node(n + 1, 4)", x.node(n + 1, 4), n - 1);
        c.due("node(2 * n, 4)", x.node(2 * n, 4), 0);
        c.due("node(n - 1, 2)", x.node(n - 1, 2), 3);
        c.due("node(n / 2, 3)", x.node(n / 2, 3), 12 + 4 * (n / 2));
    }

    private static void deepInTurns() {
        int n = 290;
        TwoLevelParser x = c.readWell("(chg f()int " + Checks.times(n, "(write(imod") + "(write 1)"
            + Checks.times(n, "))") + ")");
        c.due("look(4)", x.look(4), 2 * n + 2);
        for (int k = 0; k < 2 * n; k += 97) {
            c.due("node(" + k + ", 0)", x.node(k, 0), k % 2 == 0 ? 19 : 16);
            c.due("node(" + k + ", 1)", x.node(k, 1), 1);
            c.due("node(" + k + ", 2)", x.node(k, 2), 2 * n + 2 - k);
            c.due("node(" + k + ", 4)", x.node(k, 4), k - 1);
        }
    }

    private static void deepAndUnended() {
        int n = 1350;
        c.fault(3, "(fun f()int " + Checks.times(n, "(if") + "^");
        c.fault(2, "(fun f()int " + Checks.times(n, "(if") + "^)");
        c.fault(1, "(fun f()int " + Checks.times(n, "(if") + " ^0a");
        c.fault(2, "(fun f()int 1)^" + Checks.times(3900, ")"));
        c.fault(2, "(^" + Checks.times(3900, "("));
    }

    private static void wide() {
        int n = 1900;
        TwoLevelParser x = c.readWell("(fun f()int(call g" + Checks.times(n, " 1") + "))");
        c.due("look(4)", x.look(4), n + 1);
        c.due("node(0, 1)", x.node(0, 1), n);
        c.due("node(0, 2)", x.node(0, 2), n + 1);
        c.due("node(n, 3)", x.node(n, 3), 18 + 2 * n - 1);
        c.due("node(n, 4)", x.node(n, 4), 0);
        c.due("node(n + 1, 0)", x.node(n + 1, 0), -1);
    }
}
