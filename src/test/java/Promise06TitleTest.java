/** Promise 6: title. */
public final class Promise06TitleTest {
    private static final Checks c = new Checks("promise 6");

    public static void main(String[] args) {
        ofTheDefinition();
        ofItsParameters();
        noSuchDefinition();
        noSuchParameter();
        c.end();
    }

    private static void ofTheDefinition() {
        c.sentence("promise 6", "The NAME of DEFINITION d (i = -1)");
        String[] names = {"a", "z", "zzzzzzzzzzzz", "aaaaaaaaaaaa", "funny", "x"};
        StringBuilder text = new StringBuilder();
        for (String name : names) {
            text.append("(chg ").append(name).append(" ((x int)) int (write 1))");
        }
        TwoLevelParser x = c.readWell(text.toString());
        for (int d = 0; d < names.length; d++) {
            c.due("title(" + d + ", -1)", x.title(d, -1), Checks.nameOf(names[d]));
            c.due("title(" + d + ", -2)", x.title(d, -2), 0);
            c.due("title(" + d + ", 0)", x.title(d, 0), 24);
        }
        x = c.readWell(Checks.definitions(64));
        c.due("title(0, -1) of 64", x.title(0, -1), Checks.nameOf(Checks.nameOfNumber(0)));
        c.due("title(63, -1) of 64", x.title(63, -1), Checks.nameOf(Checks.nameOfNumber(63)));
    }

    private static void ofItsParameters() {
        c.sentence("promise 6", "or of its parameter i");
        TwoLevelParser x = c.readWell("(fun f ((a int)(b list)(c imod)(d lmod)(e int)(f list)(g imod)(zzzzzzzzzzzz lmod)) int 1)"
            + "(fun g ((h lmod)(g imod)(f list)(e int)(d lmod)(c imod)(b list)(a int)) int 1)");
        for (int i = 0; i < 7; i++) {
            c.due("title(0, " + i + ")", x.title(0, i), i + 1);
        }
        c.due("title(0, 7)", x.title(0, 7), 966966423218645850L);
        for (int i = 0; i < 8; i++) {
            c.due("title(1, " + i + ")", x.title(1, i), 8 - i);
        }
        c.due("title(0, 8)", x.title(0, 8), 0);
        c.due("title(1, 8)", x.title(1, 8), 0);
    }

    private static void noSuchDefinition() {
        c.sentence("promise 6", "0 if there is none such");
        for (int n : new int[] {0, 1, 2, 4, 5, 63, 64}) {
            TwoLevelParser x = c.readWell(Checks.definitions(n));
            if (n > 0) {
                c.due("title(n - 1, -1) of " + n, x.title(n - 1, -1), Checks.nameOf(Checks.nameOfNumber(n - 1)));
            }
            for (int d : Checks.outside(n)) {
                c.due("title(" + d + ", -1) of " + n, x.title(d, -1), 0);
                c.due("title(" + d + ", 0) of " + n, x.title(d, 0), 0);
            }
        }
    }

    private static void noSuchParameter() {
        c.sentence("promise 6", "0 if there is none such");
        for (int n = 0; n <= 8; n++) {
            TwoLevelParser x = c.readWell("(chg f (" + Checks.parameters(8) + ") int (write 1))(fun g (" + Checks.parameters(n)
                + ") int 1)(fun h (" + Checks.parameters(8) + ") int 1)");
            c.due("title(1, -1) of " + n, x.title(1, -1), 7);
            if (n > 0) {
                c.due("title(1, n - 1) of " + n, x.title(1, n - 1), 16 * 32 + n);
            }
            for (int i = n; i < 20; i++) {
                c.due("title(1, " + i + ") of " + n, x.title(1, i), 0);
            }
            // An i below -1 must not reach into the DEFINITION before.
            for (int i = -20; i < -1; i++) {
                c.due("title(1, " + i + ") of " + n, x.title(1, i), 0);
            }
            for (int i : Checks.outside(8)) {
                if (i != -1) {
                    c.due("title(1, " + i + ") of " + n, x.title(1, i), 0);
                }
            }
        }
    }
}
