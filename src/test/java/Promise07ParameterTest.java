/** Promise 7: parameter. */
public final class Promise07ParameterTest {
    private static final Checks c = new Checks("promise 7");

    public static void main(String[] args) {
        types();
        noSuchDefinition();
        noSuchParameter();
        c.end();
    }

    private static void types() {
        c.sentence("promise 7", "The TYPE of parameter i of DEFINITION d");
        TwoLevelParser x = c.readWell("(fun f ((a int)(b list)(c imod)(d lmod)(e int)(f list)(g imod)(h lmod)) lmod 1)"
            + "(chg g ((h lmod)(g imod)(f list)(e int)(d lmod)(c imod)(b list)(a int)) list (write 1))");
        for (int i = 0; i < 8; i++) {
            c.due("parameter(0, " + i + ")", x.parameter(0, i), i % 4);
            c.due("parameter(1, " + i + ")", x.parameter(1, i), 3 - i % 4);
        }
        c.due("parameter(0, 8)", x.parameter(0, 8), -1);
        c.due("parameter(1, 8)", x.parameter(1, 8), -1);
        c.due("parameter(0, -1)", x.parameter(0, -1), -1);
        c.due("parameter(1, -1)", x.parameter(1, -1), -1);
    }

    private static void noSuchDefinition() {
        c.sentence("promise 7", "NONE if there is none such.");
        StringBuilder text = new StringBuilder();
        for (int n = 0; n <= 64; n++) {
            if (n < 2 || n > 62 || n == 4) {
                TwoLevelParser x = c.readWell(text.toString());
                if (n > 0) {
                    c.due("parameter(n - 1, 0) of " + n, x.parameter(n - 1, 0), 2);
                }
                for (int d : Checks.outside(n)) {
                    c.due("parameter(" + d + ", 0) of " + n, x.parameter(d, 0), -1);
                }
            }
            text.append("(fun ").append(Checks.nameOfNumber(n)).append("((x imod))int 1)");
        }
    }

    private static void noSuchParameter() {
        c.sentence("promise 7", "NONE if there is none such.");
        for (int n = 0; n <= 8; n++) {
            TwoLevelParser x = c.readWell("(chg f (" + Checks.parameters(8) + ") int (write 1))(fun g (" + Checks.parameters(n)
                + ") int 1)(fun h (" + Checks.parameters(8) + ") int 1)");
            if (n > 0) {
                c.due("parameter(1, 0) of " + n, x.parameter(1, 0), 0);
                c.due("parameter(1, n - 1) of " + n, x.parameter(1, n - 1), (n - 1) % 4);
            }
            for (int i = n; i < 20; i++) {
                c.due("parameter(1, " + i + ") of " + n, x.parameter(1, i), -1);
            }
            // An i below 0 must not reach into what else is kept of the DEFINITION.
            for (int i = -20; i < 0; i++) {
                c.due("parameter(1, " + i + ") of " + n, x.parameter(1, i), -1);
            }
            for (int i : Checks.outside(8)) {
                c.due("parameter(1, " + i + ") of " + n, x.parameter(1, i), -1);
            }
        }
    }
}
