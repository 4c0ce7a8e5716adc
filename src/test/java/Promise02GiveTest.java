/** Promise 2: give, 1 to 8 bytes of a long, the highest first. */
public final class Promise02GiveTest {
    private static final Checks c = new Checks("promise 2");

    public static void main(String[] args) {
        wrongCounts();
        orderOfBytes();
        everyCount();
        allBytes();
        room();
        c.end();
    }

    private static void wrongCounts() {
        TwoLevelParser x = Checks.given("ab");
        int[] wrong = {0, -1, -8, 9, 16, 64, Integer.MAX_VALUE, Integer.MIN_VALUE};
        for (int n : wrong) {
            c.due("give(32, " + n + ")", x.give(32, n), false);
            c.due("look(0) after give(32, " + n + ")", x.look(0), 2);
        }
    }

    private static void orderOfBytes() {
        // What stands above the lowest n bytes of v is no part of what is given.
        TwoLevelParser x = new TwoLevelParser();
        c.due("give 4 of 8 bytes", x.give(0x4142434428666e20L, 4), true);
        c.due("look(0)", x.look(0), 4);
        x.wipe();
        c.due("give", x.give(0x2121212128667520L, 3), true);
        c.due("read(): the third byte is no word's", x.read(), 2);
        x.wipe();
        Checks.give(x, "(fu");
        c.due("give n", x.give(0x414141414141416eL, 1), true);
        Checks.give(x, " f () int -12)");
        c.due("read()", x.read(), 0);
        c.due("number(0)", x.number(0), -12);
    }

    private static void everyCount() {
        String text = "(fun thing ((one int)(two list)) int (add one 1234567))";
        for (int n = 1; n <= 8; n++) {
            TwoLevelParser x = new TwoLevelParser();
            for (int from = 0; from < text.length(); from += n) {
                String part = text.substring(from, Math.min(text.length(), from + n));
                long v = -1;
                for (int i = 0; i < part.length(); i++) {
                    v = v << 8 | part.charAt(i);
                }
                c.due("give by " + n, x.give(v, part.length()), true);
            }
            c.due("look(0) by " + n, x.look(0), text.length());
            c.due("read() by " + n, x.read(), 0);
            c.due("title(0, 1) by " + n, x.title(0, 1), Checks.nameOf("two"));
            c.due("number(2) by " + n, x.number(2), 1234567);
        }
    }

    private static void allBytes() {
        TwoLevelParser x = new TwoLevelParser();
        for (int b = 0; b < 256; b++) {
            c.due("give(" + b + ", 1)", x.give(b, 1), true);
        }
        c.due("look(0) of all bytes", x.look(0), 256);
    }

    /** Only calls behind the 512th can fill the TEXT; what it has room for is said all the same. */
    private static void room() {
        TwoLevelParser x = new TwoLevelParser();
        for (int i = 0; i < 1023; i++) {
            x.give(0x2020202020202020L, 8);
        }
        c.due("look(0)", x.look(0), 8184);
        c.due("give 5", x.give(0, 5), true);
        c.due("give 4 where 3 have room", x.give(0, 4), false);
        c.due("give 8 where 3 have room", x.give(0, 8), false);
        c.due("look(0)", x.look(0), 8189);
        c.due("give 3", x.give(0, 3), true);
        c.due("give 1 where none has room", x.give(0, 1), false);
        c.due("look(0)", x.look(0), 8192);
        c.due("read()", x.read(), 1);
        c.due("look(2)", x.look(2), 8184);
        x.wipe();
        c.due("give after wipe", x.give(32, 8), true);
        c.due("look(0)", x.look(0), 8);
    }
}
