/** Promise 1: a new object has no TEXT, and nothing read. */
public final class Promise01NewObjectTest {
    public static void main(String[] args) {
        Checks c = new Checks("promise 1");
        TwoLevelParser x = new TwoLevelParser();
        c.due("NONE", TwoLevelParser.NONE, -1);
        c.due("look(0)", x.look(0), 0);
        c.due("look(1)", x.look(1), 0);
        c.due("look(2)", x.look(2), -1);
        c.nothingRead("new", x);

        TwoLevelParser used = c.readWell("(fun f () int 1)");
        TwoLevelParser other = new TwoLevelParser();
        c.due("look(0) of another object", other.look(0), 0);
        c.nothingRead("another object", other);
        c.due("look(3) of the used one", used.look(3), 1);
        c.end();
    }
}
