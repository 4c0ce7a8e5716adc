/** The limits that the terms name: 8 parameters, 64 DEFINITIONS, 24 variables at once. */
public final class LimitsTest {
    private static final Checks c = new Checks("limits");

    public static void main(String[] args) {
        parameters();
        definitions();
        variablesOfLet();
        variablesOfCase();
        variablesOfRead();
        variablesGoAgain();
        c.end();
    }

    private static String parameters(int n) {
        StringBuilder all = new StringBuilder();
        for (int i = 0; i < n; i++) {
            all.append("(p").append((char) ('a' + i)).append(" int)");
        }
        return all.toString();
    }

    private static void parameters() {
        c.readWell("(fun f (" + parameters(8) + ") int 1)");
        c.fault(2, "(fun f (" + parameters(8) + "^(pz int)) int 1)");
        c.fault(2, "(fun f (" + parameters(8) + "^(");
        c.fault(2, "(fun f (" + parameters(8) + "^x");
        c.fault(3, "(fun f (" + parameters(8) + "^");
    }

    private static String definitions(int n) {
        StringBuilder all = new StringBuilder();
        for (int i = 0; i < n; i++) {
            all.append("(fun ").append(Checks.nameOfNumber(i)).append("()int ").append(i).append(")");
        }
        return all.toString();
    }

    private static void definitions() {
        TwoLevelParser x = c.readWell(definitions(64) + " ");
        c.due("look(3)", x.look(3), 64);
        c.due("look(4)", x.look(4), 64);
        for (int d = 0; d < 64; d++) {
            c.due("title(" + d + ", -1)", x.title(d, -1), Checks.nameOf(Checks.nameOfNumber(d)));
            c.due("definition(" + d + ", 3)", x.definition(d, 3), d);
            c.due("number(" + d + ")", x.number(d), d);
        }
        c.due("definition(64, 0)", x.definition(64, 0), -1);
        c.fault(2, definitions(64) + "^(fun last () int 1)");
        c.fault(2, definitions(64) + " ^(");
        c.fault(1, definitions(64) + "^!");
        c.fault(2, definitions(63) + "(fun ^" + Checks.nameOfNumber(62) + "() int 1)");
        c.fault(2, definitions(63) + "(fun ^" + Checks.nameOfNumber(0) + "() int 1)");
    }

    private static String lets(int n) {
        return Checks.times(n, "(let x 0 ");
    }

    private static void variablesOfLet() {
        TwoLevelParser x = c.readWell("(fun f () int " + lets(24) + "x" + Checks.times(25, ")"));
        c.due("node(48, 7)", x.node(48, 7), 24);
        c.due("node(46, 7)", x.node(46, 7), 23);
        c.fault(2, "(fun f () int " + lets(24) + "(let ^x 0 1" + Checks.times(26, ")"));
        c.fault(2, "(fun f () int " + lets(24) + "(let ^x");
        c.fault(3, "(fun f () int " + lets(24) + "(let^");
        c.fault(1, "(fun f () int " + lets(24) + "(let ^x1");
        c.readWell("(fun f (" + parameters(8) + ") int " + lets(16) + "x" + Checks.times(17, ")"));
        c.fault(2, "(fun f (" + parameters(8) + ") int " + lets(16) + "(let ^x");
        c.fault(2, "(chg f (" + parameters(8) + ") int " + lets(16) + "(let ^x");
        c.fault(2, "(chg f (" + parameters(8) + ") int (write " + lets(16) + "(let ^x");
    }

    private static void variablesOfCase() {
        c.readWell("(fun f () int " + lets(22) + "(case 1 2 (h t 3))" + Checks.times(23, ")"));
        c.fault(2, "(fun f () int " + lets(23) + "(case 1 2 (h ^t 3))" + Checks.times(24, ")"));
        c.fault(2, "(fun f () int " + lets(24) + "(case 1 2 (^h t 3))" + Checks.times(25, ")"));
        c.fault(2, "(chg f () int " + lets(23) + "(case 1 (write 1) (h ^t (write 1)))" + Checks.times(24, ")"));
        c.fault(2, "(chg f () int " + lets(24) + "(case 1 (write 1) (^h t (write 1)))" + Checks.times(25, ")"));
        c.fault(2, "(fun f () int " + Checks.times(12, "(case 1 2 (h t ") + "(case 1 2 (^h");
        c.readWell("(fun f () int " + Checks.times(12, "(case 1 2 (h t ") + "3" + Checks.times(12, "))") + ")");
    }

    private static void variablesOfRead() {
        c.readWell("(chg f () int " + Checks.times(24, "(read 1 x ") + "(write 1)" + Checks.times(25, ")"));
        c.fault(2, "(chg f () int " + Checks.times(24, "(read 1 x ") + "(read 1 ^x (write 1)" + Checks.times(26, ")"));
        c.fault(2, "(fun f () int " + lets(23) + "(imod (read 1 x (read 1 ^x");
    }

    /** Variables end where their expression does, and are not there in the ones before it. */
    private static void variablesGoAgain() {
        String full = lets(24) + "x" + Checks.times(24, ")");
        c.readWell("(fun f () int (call g " + full + full + full + "))");
        c.readWell("(fun f () int (let y " + full + " 1))");
        c.fault(2, "(fun f () int (let y 1 " + lets(23) + "(let ^x 1 2");
        c.readWell("(fun f () int (case " + full + full + "(h t 1)))");
        c.readWell("(chg f () int (read " + full + " x (write " + lets(23) + "x" + Checks.times(23, ")") + ")))");
        c.fault(2, "(chg f () int (read " + full + " x (write " + lets(23) + "(let ^x");
        c.readWell("(fun f () int " + full + ")(fun g () int " + full + ")");
        c.fault(2, "(fun f () int (imod (write " + lets(24) + "(let ^x");
    }
}
