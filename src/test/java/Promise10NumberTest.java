/** Promise 10: number. */
public final class Promise10NumberTest {
    private static final Checks c = new Checks("promise 10");

    public static void main(String[] args) {
        values();
        noNumbers();
        noSuchNode();
        c.end();
    }

    private static void values() {
        c.sentence("promise 10", "The value of NODE k, a NUMBER");
        String[] written = {"0", "-0", "-00", "1", "-1", "7", "007", "-007", "2147483646", "2147483647", "-2147483647",
            "-2147483648", "1000000000", "0000000000000000000000000000002147483647", "-" + Checks.times(300, "0") + "2147483648",
            Checks.times(1000, "0")};
        int[] due = {0, 0, 0, 1, -1, 7, 7, -7, 2147483646, 2147483647, -2147483647, -2147483648, 1000000000, 2147483647,
            -2147483648, 0};
        StringBuilder all = new StringBuilder("(fun f () int (call g");
        for (int i = 0; i < written.length; i++) {
            TwoLevelParser x = c.readWell("(fun f () int " + written[i] + ")");
            c.due("number of " + written[i], x.number(0), due[i]);
            c.due("kind of " + written[i], x.node(0, 0), 0);
            all.append(' ').append(written[i]);
        }
        TwoLevelParser x = c.readWell(all + "))");
        for (int i = 0; i < written.length; i++) {
            c.due("number(" + (i + 1) + ")", x.number(i + 1), due[i]);
        }
        c.due("number(0)", x.number(0), 0);
    }

    private static void noNumbers() {
        c.sentence("promise 10", "0 if there is none such.");
        String[] without = {"x", "nil", "(add 5 6)", "(sub 5 6)", "(mul 5 6)", "(div 5 6)", "(rem 5 6)", "(less 5 6)", "(same 5 6)",
            "(if 5 6 7)", "(let x 5 6)", "(case 5 6 (h t 7))", "(cons 5 6)", "(call g 5)", "(memo g 5)", "(imod (write 5))",
            "(lmod (write 5))"};
        TwoLevelParser used = c.readWell("(fun f () int 5)");
        for (String e : without) {
            c.due("number(0) of " + e, c.readWell("(fun f () int " + e + ")").number(0), 0);
            // Where a NUMBER was read before, too.
            used.wipe();
            Checks.give(used, "(fun f () int " + e + ")");
            c.due("read() of " + e, used.read(), 0);
            c.due("number(0) of " + e + ", read after a NUMBER", used.number(0), 0);
        }
        for (String t : new String[] {"(read 5 x (write 6))", "(write 5)", "(if 5 (write 6) (write 7))", "(let x 5 (write 6))",
            "(case 5 (write 6) (h t (write 7)))", "(jump g 5)"}) {
            c.due("number(0) of " + t, c.readWell("(chg f () int " + t + ")").number(0), 0);
        }
    }

    private static void noSuchNode() {
        c.sentence("promise 10", "0 if there is none such.");
        for (int n : new int[] {0, 1, 3, 4, 5, 16, 1000}) {
            TwoLevelParser x = c.readWell(n == 0 ? "" : n == 1 ? "(fun f () int 9)"
                : "(fun f () int (call g" + Checks.times(n - 1, " 9") + "))");
            if (n > 0) {
                c.due("number(n - 1) of " + n, x.number(n - 1), 9);
            }
            for (int k : Checks.outside(n)) {
                c.due("number(" + k + ") of " + n, x.number(k), 0);
            }
        }
    }
}
