/** E and C in one another, and NODES in their order, to the end of the TEXT; on a small stack. */
public final class TermsDepthTest {
    private static final Checks c = new Checks("depth");
    private static final int[] BYTES = {1000, 3800, 8192};
    private static volatile boolean done = false;

    public static void main(String[] args) throws InterruptedException {
        Thread small = new Thread(null, TermsDepthTest::all, "small stack", 200 * 1024);
        small.start();
        small.join();
        // An error ends the thread alone, not the test.
        c.due("all was asked on the small stack", done, true);
        c.end();
    }

    private static void all() {
        c.sentence("promises 4, 8, 11", "E and C stand in one another as deep as the TEXT has room");
        // The object is promised 512 calls; 8192 bytes need more, and are held all the same.
        for (int bytes : BYTES) {
            deepInFirst(bytes);
            deepInLast(bytes);
            deepInTurns(bytes);
            deepAndUnended(bytes);
        }
        c.sentence("promises 8, 11", "THE NODES of a TEXT are its E and C, numbered from 0 on");
        noNodes();
        for (int bytes : BYTES) {
            wide(bytes);
        }
        c.sentence("promises 5, 8, 11", "of one DEFINITION behind the other; of each all that is in it, in the order of the text, behind itself");
        definitionsOneBehindTheOther();
        done = true;
    }

    /** So deep that the TEXT has no room for one more. */
    private static int deepest(int bytes, int outside, int each) {
        return (bytes - outside) / each;
    }

    private static void deepInFirst(int bytes) {
        int n = deepest(bytes, 15, 7);
        TwoLevelParser x = c.readWell("(fun f()int " + Checks.times(n, "(add") + " 7" + Checks.times(n, " 1)") + ")");
        c.due("look(4)", x.look(4), 2 * n + 1);
        c.due("node(0, 2)", x.node(0, 2), 2 * n + 1);
        c.due("node(n, 0)", x.node(n, 0), 0);
        c.due("number(n)", x.number(n), 7);
        c.due("node(n, 4)", x.node(n, 4), n - 1);
        c.due("node(n + 1, 4)", x.node(n + 1, 4), n - 1);
        c.due("node(2 * n, 4)", x.node(2 * n, 4), 0);
        c.due("node(n - 1, 2)", x.node(n - 1, 2), 3);
        c.due("node(n / 2, 3)", x.node(n / 2, 3), 12 + 4 * (n / 2));
        c.due("node(2 * n + 1, 0)", x.node(2 * n + 1, 0), -1);
    }

    private static void deepInLast(int bytes) {
        int n = deepest(bytes, 15, 10);
        TwoLevelParser x = c.readWell("(fun f()int" + Checks.times(n, "(if 1 2") + " 3" + Checks.times(n, ")") + ")");
        c.due("look(4)", x.look(4), 3 * n + 1);
        c.due("node(0, 1)", x.node(0, 1), 3);
        c.due("node(0, 2)", x.node(0, 2), 3 * n + 1);
        c.due("number(3 * n)", x.number(3 * n), 3);
        c.due("node(3 * n, 4)", x.node(3 * n, 4), 3 * n - 3);
        c.due("node(3, 4)", x.node(3, 4), 0);
    }

    private static void deepInTurns(int bytes) {
        int n = deepest(bytes, 24, 13);
        TwoLevelParser x = c.readWell("(chg f()int " + Checks.times(n, "(write(imod") + "(write 1)" + Checks.times(n, "))") + ")");
        c.due("look(4)", x.look(4), 2 * n + 2);
        for (int k = 0; k < 2 * n; k += 97) {
            c.due("node(" + k + ", 0)", x.node(k, 0), k % 2 == 0 ? 19 : 16);
            c.due("node(" + k + ", 1)", x.node(k, 1), 1);
            c.due("node(" + k + ", 2)", x.node(k, 2), 2 * n + 2 - k);
            c.due("node(" + k + ", 4)", x.node(k, 4), k - 1);
        }
    }

    private static void deepAndUnended(int bytes) {
        int n = deepest(bytes, 16, 3);
        String open = "(fun f()int " + Checks.times(n, "(if");
        c.fault(3, open + "^");
        c.fault(2, open + "^)");
        c.fault(1, open + " ^0a");
        c.fault(2, "(fun f()int 1)^" + Checks.times(bytes - 14, ")"));
        c.fault(2, "(^" + Checks.times(bytes - 1, "("));
        c.fault(2, "^" + Checks.times(bytes, ")"));
    }

    private static void noNodes() {
        TwoLevelParser x = c.readWell("");
        c.due("look(4) of none", x.look(4), 0);
        c.due("node(0, 0) of none", x.node(0, 0), -1);
        x = c.readWell("(fun f () int 1)");
        c.due("look(4) of one", x.look(4), 1);
        c.due("node(0, 0) of one", x.node(0, 0), 0);
        c.due("node(1, 0) of one", x.node(1, 0), -1);
        c.due("node(-1, 0) of one", x.node(-1, 0), -1);
    }

    private static void wide(int bytes) {
        int n = deepest(bytes, 20, 2);
        TwoLevelParser x = c.readWell("(fun f()int(call g" + Checks.times(n, " 1") + "))");
        c.due("look(4)", x.look(4), n + 1);
        c.due("node(0, 1)", x.node(0, 1), n);
        c.due("node(0, 2)", x.node(0, 2), n + 1);
        c.due("node(n, 3)", x.node(n, 3), 18 + 2 * n - 1);
        c.due("node(n, 4)", x.node(n, 4), 0);
        c.due("node(n + 1, 0)", x.node(n + 1, 0), -1);
    }

    private static void definitionsOneBehindTheOther() {
        String text = "(fun f () int (add (mul a 2) (call g (imod (jump h b)) nil)))(chg g () int (write (if c 1 d)))";
        TwoLevelParser x = c.readWell(text);
        int[] kinds = {3, 5, 1, 0, 14, 16, 23, 1, 2, 19, 10, 1, 0, 1};
        int[] children = {2, 2, 0, 0, 2, 1, 1, 0, 0, 1, 3, 0, 0, 0};
        int[] sizes = {9, 3, 1, 1, 5, 3, 2, 1, 1, 5, 4, 1, 1, 1};
        int[] parents = {-1, 0, 1, 1, 0, 4, 5, 6, 4, -1, 9, 10, 10, 10};
        String[] first = {"(add", "(mul", "a 2", "2)", "(call", "(imod", "(jump", "b))", "nil", "(write", "(if c", "c 1",
            "1 d", "d)))"};
        c.due("look(4)", x.look(4), kinds.length);
        for (int k = 0; k < kinds.length; k++) {
            c.due("node(" + k + ", 0)", x.node(k, 0), kinds[k]);
            c.due("node(" + k + ", 1)", x.node(k, 1), children[k]);
            c.due("node(" + k + ", 2)", x.node(k, 2), sizes[k]);
            c.due("node(" + k + ", 3)", x.node(k, 3), text.indexOf(first[k]));
            c.due("node(" + k + ", 4)", x.node(k, 4), parents[k]);
        }
        c.due("definition(0, 3)", x.definition(0, 3), 0);
        c.due("definition(1, 3)", x.definition(1, 3), 9);
        c.due("node(14, 0)", x.node(14, 0), -1);
    }
}
