/** Promise 3: wipe empties the TEXT, and touches nothing else. */
public final class Promise03WipeTest {
    public static void main(String[] args) {
        Checks c = new Checks("promise 3");
        TwoLevelParser x = new TwoLevelParser();
        x.wipe();
        c.due("look(0) of a new one", x.look(0), 0);

        Checks.give(x, "(chg g ((p lmod)) list (write 5))");
        c.due("read()", x.read(), 0);
        x.wipe();
        c.due("look(0)", x.look(0), 0);
        c.due("look(3) stays", x.look(3), 1);
        c.due("look(4) stays", x.look(4), 2);
        c.due("title stays", x.title(0, -1), 7);
        c.due("parameter stays", x.parameter(0, 0), 3);
        c.due("number stays", x.number(1), 5);
        c.due("node stays", x.node(1, 3), 30);

        Checks.give(x, "(fun");
        c.due("the bytes come to an empty TEXT", x.look(0), 4);
        c.due("read()", x.read(), 3);
        x.wipe();
        c.due("look(1) stays", x.look(1), 3);
        c.due("look(2) stays", x.look(2), 4);
        c.due("read() of nothing", x.read(), 0);
        c.due("look(1)", x.look(1), 0);
        c.due("look(2)", x.look(2), -1);
        c.nothingRead("an empty TEXT", x);

        // What stood behind the new end must not come back.
        Checks.give(x, "(fun f () int 1)(fun g () int 1)");
        x.wipe();
        Checks.give(x, "(fun f () int 1)");
        c.due("read()", x.read(), 0);
        c.due("look(3)", x.look(3), 1);
        c.end();
    }
}
