/** Promise 1: a new object has no TEXT, and nothing read. */
public final class Promise01NewObjectTest {
    private static final Checks c = new Checks("promise 1");

    public static void main(String[] args) {
        empty();
        firstCalls();
        ofItsOwn();
        lastCall();
        c.end();
    }

    private static void empty() {
        c.sentence("promise 1", "No TEXT; nothing read.");
        TwoLevelParser x = new TwoLevelParser();
        c.due("look(0)", x.look(0), 0);
        c.due("look(1)", x.look(1), 0);
        c.due("look(2)", x.look(2), -1);
        c.nothingRead("new", x);
        for (int none : Checks.outside(0)) {
            c.due("definition(" + none + ", 0)", new TwoLevelParser().definition(none, 0), -1);
            c.due("node(" + none + ", 0)", new TwoLevelParser().node(none, 0), -1);
            c.due("title(" + none + ", -1)", new TwoLevelParser().title(none, -1), 0);
            c.due("parameter(" + none + ", 0)", new TwoLevelParser().parameter(none, 0), -1);
            c.due("name(" + none + ", 0)", new TwoLevelParser().name(none, 0), 0);
            c.due("number(" + none + ")", new TwoLevelParser().number(none), 0);
        }
        c.sentence("all promises", "`NONE = -1`: There is none.");
        c.due("NONE", TwoLevelParser.NONE, -1);
    }

    /** Each call as the very first one. */
    private static void firstCalls() {
        c.sentence("promises 1 to 4", "No TEXT; nothing read.");
        TwoLevelParser x = new TwoLevelParser();
        c.due("read() of no TEXT", x.read(), 0);
        c.due("look(0)", x.look(0), 0);
        c.due("look(1)", x.look(1), 0);
        c.due("look(2)", x.look(2), -1);
        c.nothingRead("read", x);
        x = new TwoLevelParser();
        x.wipe();
        c.due("look(0) wiped", x.look(0), 0);
        c.due("look(1) wiped", x.look(1), 0);
        c.due("look(2) wiped", x.look(2), -1);
        c.nothingRead("wiped", x);
        c.due("give(40, 1)", x.give(40, 1), true);
        c.due("look(0)", x.look(0), 1);
        c.nothingRead("given", x);
        x = new TwoLevelParser();
        c.due("give(40, 0)", x.give(40, 0), false);
        c.due("look(0)", x.look(0), 0);
        c.due("read()", x.read(), 0);
    }

    private static void ofItsOwn() {
        c.sentence("promise 1", "No TEXT; nothing read.");
        TwoLevelParser used = c.readWell("(fun f () int 1)");
        String told = Checks.answers(used);
        TwoLevelParser other = new TwoLevelParser();
        c.due("look(0) of another object", other.look(0), 0);
        c.nothingRead("another object", other);
        Checks.give(other, "(");
        c.due("read() of another object", other.read(), 3);
        c.due("what the used one tells", Checks.answers(used), told);
    }

    private static void lastCall() {
        c.sentence("all promises", "An object is used for at most 512 calls after it has been made");
        String text = "(fun f () int" + Checks.times(4045, " ") + "(add 1 -2147483648))";
        TwoLevelParser x = Checks.given(text);
        int calls = (text.length() + 7) / 8;
        c.due("read()", x.read(), 0);
        calls++;
        for (; calls < Checks.MOST_CALLS - 1; calls++) {
            c.due("look(4)", x.look(4), 3);
        }
        c.due("the 512th call", x.number(2), -2147483648);
        lastReads();
    }

    private static void lastReads() {
        TwoLevelParser x = Checks.given("(fun f () int (let x 1 (add x 7)))");
        for (int calls = 5; calls < Checks.MOST_CALLS - 1; calls++) {
            c.due("read()", x.read(), 0);
        }
        c.due("the 512th call", x.number(4), 7);
        TwoLevelParser wiped = new TwoLevelParser();
        for (int calls = 0; calls < Checks.MOST_CALLS - 2; calls += 2) {
            c.due("give()", wiped.give(0x2828282828282828L, 8), true);
            wiped.wipe();
        }
        c.due("give()", wiped.give(41, 1), true);
        c.due("the 512th call", wiped.read(), 2);
    }
}
