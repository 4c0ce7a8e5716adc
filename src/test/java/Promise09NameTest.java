/** Promise 9: name. */
public final class Promise09NameTest {
    private static final Checks c = new Checks("promise 9");

    public static void main(String[] args) {
        firstNames();
        secondNames();
        withoutAName();
        noSuchNode();
        noSuchName();
        c.end();
    }

    private static void firstNames() {
        c.sentence("promise 9", "The NAME of NODE k (X, F, the HEAD of a case; i = 0)");
        TwoLevelParser x = c.readWell("(fun f () int (call zzzzzzzzzzzz nil 1 a (memo abcdefghijkl) (let bc 1 2)"
            + " (case 1 2 (hd tl 3)) (imod (read 1 rd (jump go)))))");
        String[] due = {"zzzzzzzzzzzz", "", "", "a", "abcdefghijkl", "bc", "", "", "hd", "", "", "", "", "rd", "", "go"};
        c.due("look(4)", x.look(4), due.length);
        for (int k = 0; k < due.length; k++) {
            c.due("name(" + k + ", 0)", x.name(k, 0), Checks.nameOf(due[k]));
            c.due("name(" + k + ", 1)", x.name(k, 1), k == 8 ? Checks.nameOf("tl") : 0);
            c.due("node(" + k + ", 5) is there with a NAME", x.node(k, 5) >= 0, !due[k].isEmpty());
            c.due("node(" + k + ", 6) is there with a second NAME", x.node(k, 6) >= 0, k == 8);
        }
        c.due("name(5, 0)", x.name(5, 0), 2 * 32 + 3);
    }

    private static void secondNames() {
        c.sentence("promise 9", "or its second one (i = 1)");
        for (String name : new String[] {"a", "z", "zzzzzzzzzzzz"}) {
            TwoLevelParser x = c.readWell("(fun f () int (case 1 2 (head " + name + " 3)))");
            c.due("name(0, 0)", x.name(0, 0), Checks.nameOf("head"));
            c.due("name(0, 1)", x.name(0, 1), Checks.nameOf(name));
            x = c.readWell("(chg f () int (case 1 (write 2) (head " + name + " (write 3))))");
            c.due("name(0, 0) of a C", x.name(0, 0), Checks.nameOf("head"));
            c.due("name(0, 1) of a C", x.name(0, 1), Checks.nameOf(name));
        }
        for (Words.NamePlace at : Words.NamePlace.values()) {
            if (!at.name().startsWith("CASE") && !at.isTitle() && !at.isParameter()) {
                TwoLevelParser x = c.readWell(at.with("x"));
                c.due("name(0, 0) of " + at, x.name(0, 0), 24);
                c.due("name(0, 1) of " + at, x.name(0, 1), 0);
            }
        }
    }

    private static void withoutAName() {
        c.sentence("promise 9", "0 if there is none such.");
        String[] without = {"1", "nil", "(add x y)", "(sub x y)", "(mul x y)", "(div x y)", "(rem x y)", "(less x y)", "(same x y)",
            "(if x y z)", "(cons x y)", "(imod (jump x))", "(lmod (jump x))"};
        for (String e : without) {
            TwoLevelParser x = c.readWell("(fun f ((a int)) int " + e + ")");
            c.due("name(0, 0) of " + e, x.name(0, 0), 0);
            c.due("name(0, 1) of " + e, x.name(0, 1), 0);
        }
        c.due("name(0, 0) of a write", c.readWell("(chg f () int (write x))").name(0, 0), 0);
        c.due("name(0, 0) of an if", c.readWell("(chg f () int (if x (jump y) (jump z)))").name(0, 0), 0);
    }

    private static void noSuchNode() {
        c.sentence("promise 9", "0 if there is none such.");
        for (int n : new int[] {0, 1, 3, 4, 5, 16, 1000}) {
            TwoLevelParser x = c.readWell(n == 0 ? "" : "(fun f () int (call g" + Checks.times(n - 1, " y") + "))");
            if (n > 0) {
                c.due("name(n - 1, 0) of " + n, x.name(n - 1, 0), n == 1 ? 7 : 25);
            }
            for (int k : Checks.outside(n)) {
                c.due("name(" + k + ", 0) of " + n, x.name(k, 0), 0);
                c.due("name(" + k + ", 1) of " + n, x.name(k, 1), 0);
            }
        }
    }

    private static void noSuchName() {
        c.sentence("promise 9", "0 if there is none such.");
        TwoLevelParser x = c.readWell("(fun f () int (case a b (c d (case e f (g h i)))))");
        for (int k : new int[] {0, 3}) {
            c.due("name(" + k + ", 0)", x.name(k, 0), k == 0 ? 3 : 7);
            c.due("name(" + k + ", 1)", x.name(k, 1), k == 0 ? 4 : 8);
            for (int i = 2; i < 20; i++) {
                c.due("name(" + k + ", " + i + ")", x.name(k, i), 0);
            }
            // An i below 0 must not reach into the NODE before.
            for (int i = -20; i < 0; i++) {
                c.due("name(" + k + ", " + i + ")", x.name(k, i), 0);
            }
            for (int i : Checks.outside(2)) {
                c.due("name(" + k + ", " + i + ")", x.name(k, i), 0);
            }
        }
    }
}
