/** Promises 5, 6 and 7: definition, title, parameter. */
public final class Promise05To07DefinitionsTest {
    private static final Checks c = new Checks("promises 5 to 7");
    private static final int[] FAR = {Integer.MIN_VALUE, -2, Integer.MAX_VALUE, Integer.MAX_VALUE - 4, 64, 1 << 28};
    private static final String TEXT = " (fun one ((a int) (bc list) (d imod) (e lmod)) imod (add 1 2))\n"
        + "(chg two () list (write 3)) (fun three () lmod nil)"
        + "(chg four ((zzzzzzzzzzzz lmod)) int (jump one)) (fun five () list x) (fun six () int 1)";

    public static void main(String[] args) {
        TwoLevelParser x = c.readWell(TEXT);
        c.due("look(3)", x.look(3), 6);
        definitions(x);
        titles(x);
        parameters(x);
        eightOfThem();
        c.end();
    }

    private static void definitions(TwoLevelParser x) {
        int[][] due = {
            {0, 2, 4, 0, TEXT.indexOf("one")}, {1, 1, 0, 3, TEXT.indexOf("two")},
            {0, 3, 0, 5, TEXT.indexOf("three")}, {1, 0, 1, 6, TEXT.indexOf("four")},
            {0, 1, 0, 7, TEXT.indexOf("five")}, {0, 0, 0, 8, TEXT.indexOf("six")}};
        for (int d = 0; d < due.length; d++) {
            for (int w = 0; w < 5; w++) {
                c.due("definition(" + d + ", " + w + ")", x.definition(d, w), due[d][w]);
            }
            for (int w = 5; w < 20; w++) {
                c.due("definition(" + d + ", " + w + ")", x.definition(d, w), -1);
            }
            c.due("definition(" + d + ", -1)", x.definition(d, -1), -1);
        }
        for (int far : FAR) {
            c.due("definition(" + far + ", 0)", x.definition(far, 0), -1);
            c.due("definition(1, " + far + ")", x.definition(1, far), -1);
        }
        c.due("definition(-1, 2)", x.definition(-1, 2), -1);
        c.due("definition(6, 0)", x.definition(6, 0), -1);
    }

    private static void titles(TwoLevelParser x) {
        String[] names = {"one", "two", "three", "four", "five", "six"};
        for (int d = 0; d < names.length; d++) {
            c.due("title(" + d + ", -1)", x.title(d, -1), Checks.nameOf(names[d]));
        }
        c.due("title(0, 0)", x.title(0, 0), 1);
        c.due("title(0, 1)", x.title(0, 1), 67);
        c.due("title(0, 2)", x.title(0, 2), 4);
        c.due("title(0, 3)", x.title(0, 3), 5);
        c.due("title(0, 4)", x.title(0, 4), 0);
        c.due("title(0, 8)", x.title(0, 8), 0);
        c.due("title(0, 9)", x.title(0, 9), 0);
        c.due("title(1, 0)", x.title(1, 0), 0);
        c.due("title(3, 0)", x.title(3, 0), Checks.nameOf("zzzzzzzzzzzz"));
        c.due("title(6, -1)", x.title(6, -1), 0);
        c.due("title(-1, -1)", x.title(-1, -1), 0);
        for (int far : FAR) {
            c.due("title(" + far + ", -1)", x.title(far, -1), 0);
            c.due("title(0, " + far + ")", x.title(0, far), 0);
        }
    }

    private static void parameters(TwoLevelParser x) {
        for (int i = 0; i < 4; i++) {
            c.due("parameter(0, " + i + ")", x.parameter(0, i), i);
        }
        for (int i = 4; i < 12; i++) {
            c.due("parameter(0, " + i + ")", x.parameter(0, i), -1);
        }
        for (int i = -6; i < 0; i++) {
            c.due("parameter(0, " + i + ")", x.parameter(0, i), -1);
        }
        c.due("parameter(1, 0)", x.parameter(1, 0), -1);
        c.due("parameter(3, 0)", x.parameter(3, 0), 3);
        c.due("parameter(6, 0)", x.parameter(6, 0), -1);
        c.due("parameter(-1, 0)", x.parameter(-1, 0), -1);
        for (int far : FAR) {
            c.due("parameter(" + far + ", 0)", x.parameter(far, 0), -1);
            c.due("parameter(0, " + far + ")", x.parameter(0, far), -1);
        }
    }

    private static void eightOfThem() {
        TwoLevelParser x = c.readWell("(fun f ((a int)(b list)(c imod)(d lmod)(e int)(f list)(g imod)(h lmod)) int 1)"
            + "(fun g ((h lmod)(g imod)(f list)(e int)(d lmod)(c imod)(b list)(a int)) int 1)");
        for (int i = 0; i < 8; i++) {
            c.due("title(0, " + i + ")", x.title(0, i), i + 1);
            c.due("parameter(0, " + i + ")", x.parameter(0, i), i % 4);
            c.due("title(1, " + i + ")", x.title(1, i), 8 - i);
            c.due("parameter(1, " + i + ")", x.parameter(1, i), 3 - i % 4);
        }
        c.due("title(0, 8)", x.title(0, 8), 0);
        c.due("parameter(0, 8)", x.parameter(0, 8), -1);
        c.due("definition(0, 2)", x.definition(0, 2), 8);
    }
}
