/** Promise 11: look. */
public final class Promise11LookTest {
    public static void main(String[] args) {
        Checks c = new Checks("promise 11");
        TwoLevelParser x = new TwoLevelParser();
        looks(c, x, 0, 0, -1, 0, 0);
        Checks.give(x, "(fun f () int (add 1 2))(chg g () int (write 1))");
        looks(c, x, 48, 0, -1, 0, 0);
        c.due("read()", x.read(), 0);
        looks(c, x, 48, 0, -1, 2, 5);
        Checks.give(x, "(fun h");
        looks(c, x, 54, 0, -1, 2, 5);
        c.due("read()", x.read(), 3);
        looks(c, x, 54, 3, 54, 0, 0);
        Checks.give(x, " 1");
        looks(c, x, 56, 3, 54, 0, 0);
        c.due("read()", x.read(), 2);
        looks(c, x, 56, 2, 55, 0, 0);
        x.wipe();
        looks(c, x, 0, 2, 55, 0, 0);
        Checks.give(x, "%");
        c.due("read()", x.read(), 1);
        looks(c, x, 1, 1, 0, 0, 0);
        x.wipe();
        c.due("read()", x.read(), 0);
        looks(c, x, 0, 0, -1, 0, 0);
        c.end();
    }

    private static void looks(Checks c, TwoLevelParser x, int... due) {
        for (int which = 0; which < due.length; which++) {
            c.due("look(" + which + ")", x.look(which), due[which]);
        }
        int[] other = {-1, 5, 6, 100, -100, Integer.MIN_VALUE, Integer.MAX_VALUE};
        for (int which : other) {
            c.due("look(" + which + ")", x.look(which), -1);
        }
    }
}
