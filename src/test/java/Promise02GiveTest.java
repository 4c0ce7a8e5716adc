/** Promise 2: give, 1 to 8 bytes of a long, the highest first, into a TEXT of up to 8192. */
public final class Promise02GiveTest {
    private static final Checks c = new Checks("promise 2");
    private static final int MOST = 8192;

    public static void main(String[] args) {
        countsThatAreTaken();
        countsThatAreNot();
        lowestBytes();
        everyCount();
        allBytes();
        room();
        lastByteCounts();
        refusedForRoom();
        refusedWithoutChange();
        c.end();
    }

    private static void countsThatAreTaken() {
        c.sentence("promise 2", "n bytes of v, 1 .. 8");
        TwoLevelParser x = new TwoLevelParser();
        int bytes = 0;
        for (int n = 1; n <= 8; n++) {
            c.due("give(0, " + n + ")", x.give(0, n), true);
            bytes += n;
            c.due("look(0) behind give(0, " + n + ")", x.look(0), bytes);
        }
        for (long v : new long[] {0, -1, 1, Long.MIN_VALUE, Long.MAX_VALUE}) {
            c.due("give(" + v + ", 1)", x.give(v, 1), true);
            c.due("give(" + v + ", 8)", x.give(v, 8), true);
            bytes += 9;
            c.due("look(0) behind " + v, x.look(0), bytes);
        }
    }

    private static void countsThatAreNot() {
        c.sentence("promise 2", "false if n is not as said, or there is no room");
        int[] wrong = {0, -1, -2, -7, -8, -9, 9, 10, 16, 64, 255, 256, 257, 264, 65537, Integer.MAX_VALUE, Integer.MAX_VALUE - 7,
            Integer.MIN_VALUE, Integer.MIN_VALUE + 1, Integer.MIN_VALUE + 8};
        for (int n : wrong) {
            TwoLevelParser x = Checks.given("(fun f () int 1");
            c.due("give(41, " + n + ") to some bytes", x.give(41, n), false);
            c.due("look(0) after it", x.look(0), 15);
            c.due("read() after it", x.read(), 3);
            c.due("look(2) after it", x.look(2), 15);
            c.due("give(41, 1)", x.give(41, 1), true);
            c.due("read() of the whole", x.read(), 0);
            TwoLevelParser fresh = new TwoLevelParser();
            c.due("give(41, " + n + ") to none", fresh.give(41, n), false);
            c.due("look(0) after it", fresh.look(0), 0);
            c.due("read() after it", fresh.read(), 0);
        }
    }

    private static void lowestBytes() {
        c.sentence("promise 2", "the highest first (of its lowest n)");
        // The digits 1 to 8, of which the last n are given.
        long digits = 0x3132333435363738L;
        int[] due = {8, 78, 678, 5678, 45678, 345678, 2345678, 12345678};
        for (int n = 1; n <= 8; n++) {
            TwoLevelParser x = Checks.given("(fun f () int ");
            c.due("give of " + n, x.give(digits, n), true);
            c.due("look(0) of " + n, x.look(0), 14 + n);
            Checks.give(x, ")");
            c.due("read() of " + n, x.read(), 0);
            c.due("number(0) of " + n, x.number(0), due[n - 1]);
        }
        for (int n = 1; n < 8; n++) {
            TwoLevelParser x = Checks.given("(fun f () int ");
            // Above the lowest n stand ones, which are no part of what is given.
            long ones = -1L << 8 * n;
            c.due("give of " + n, x.give(digits & ~ones | ones, n), true);
            Checks.give(x, ")");
            c.due("read() of " + n + " below ones", x.read(), 0);
            c.due("number(0) of " + n + " below ones", x.number(0), due[n - 1]);
        }
        TwoLevelParser x = Checks.given("(");
        c.due("give of the highest byte, 128", x.give(0x8020202020202020L, 8), true);
        c.due("read() of 128", x.read(), 1);
        c.due("look(2) of 128", x.look(2), 1);
        x = Checks.given("(");
        c.due("give without the highest byte", x.give(0x8020202020202020L, 7), true);
        c.due("read() of blanks", x.read(), 3);
        c.due("look(2) of blanks", x.look(2), 8);
    }

    private static void everyCount() {
        c.sentence("promise 2", "come to the TEXT");
        String text = "(fun thing ((one int)(two list)) int (add one 1234567))";
        for (int n = 1; n <= 8; n++) {
            TwoLevelParser x = new TwoLevelParser();
            for (int from = 0; from < text.length(); from += n) {
                String part = text.substring(from, Math.min(text.length(), from + n));
                long v = -1;
                for (int i = 0; i < part.length(); i++) {
                    v = v << 8 | part.charAt(i);
                }
                c.due("give by " + n, x.give(v, part.length()), true);
            }
            c.due("look(0) by " + n, x.look(0), text.length());
            c.due("read() by " + n, x.read(), 0);
            c.due("title(0, 1) by " + n, x.title(0, 1), Checks.nameOf("two"));
            c.due("number(2) by " + n, x.number(2), 1234567);
        }
    }

    private static void allBytes() {
        c.sentence("promise 2", "n bytes of v");
        TwoLevelParser x = new TwoLevelParser();
        for (int b = 0; b < 256; b++) {
            c.due("give(" + b + ", 1)", x.give(b, 1), true);
            c.due("look(0)", x.look(0), b + 1);
        }
    }

    /** Only calls behind the 512th can fill the TEXT; what it has room for is said all the same. */
    private static TwoLevelParser filled(int bytes) {
        return Checks.given(Checks.times(bytes, " "));
    }

    private static void room() {
        c.sentence("promise 2", "which has up to 8192: true");
        for (int n = 1; n <= 8; n++) {
            TwoLevelParser x = filled(MOST - n);
            c.due("give(32, " + n + ") with room for it", x.give(0x2020202020202020L, n), true);
            c.due("look(0)", x.look(0), MOST);
            c.due("give(32, 1) to a full TEXT", x.give(32, 1), false);
            c.due("read()", x.read(), 0);
        }
        c.due("look(0) of 8191", filled(MOST - 1).look(0), MOST - 1);
    }

    private static void lastByteCounts() {
        c.sentence("promises 2, 4", "which has up to 8192");
        String open = "(fun f () int 1";
        TwoLevelParser x = Checks.given(open + Checks.times(MOST - 1 - open.length(), " "));
        c.due("read() of 8191", x.read(), 3);
        c.due("look(2) of 8191", x.look(2), MOST - 1);
        c.due("give of the last byte", x.give(')', 1), true);
        c.due("read() of 8192", x.read(), 0);
        c.due("look(3)", x.look(3), 1);
        c.due("give to the full TEXT", x.give('!', 1), false);
        c.due("read() of 8192 again", x.read(), 0);
        c.due("number(0)", x.number(0), 1);
    }

    private static void refusedForRoom() {
        c.sentence("promise 2", "or there is no room");
        for (int room = 0; room < 8; room++) {
            for (int n = room + 1; n <= 8; n++) {
                TwoLevelParser x = filled(MOST - room);
                c.due("give(33, " + n + ") with room for " + room, x.give(0x2121212121212121L, n), false);
                c.due("look(0) after it", x.look(0), MOST - room);
                c.due("read() after it", x.read(), 0);
                if (room > 0) {
                    c.due("give(33, " + room + ") with room for it", x.give(0x2121212121212121L, room), true);
                    c.due("look(0) after it", x.look(0), MOST);
                    c.due("read() after it", x.read(), 1);
                    c.due("look(2) after it", x.look(2), MOST - room);
                }
            }
        }
    }

    private static void refusedWithoutChange() {
        c.sentence("promise 2", "What answers false or a fault changes nothing but what is said.");
        TwoLevelParser x = c.readWell("(fun f ((a int)) int (add a -5))");
        String told = Checks.answers(x);
        for (int n : new int[] {0, 9, -1, Integer.MIN_VALUE, Integer.MAX_VALUE}) {
            c.due("give(33, " + n + ")", x.give(33, n), false);
        }
        c.due("all that it tells", Checks.answers(x), told);
        x = c.fault(2, "(fun f () int (^nosuch 1))");
        told = Checks.answers(x);
        c.due("give(33, 0) after a fault", x.give(33, 0), false);
        c.due("give(33, 9) after a fault", x.give(33, 9), false);
        c.due("all that it tells after a fault", Checks.answers(x), told);
        c.due("read() again", x.read(), 2);
        c.due("look(2) again", x.look(2), 15);
        x = Checks.given("(fun f () int 1)" + Checks.times(MOST - 16, " "));
        c.due("read() of a full TEXT", x.read(), 0);
        told = Checks.answers(x);
        c.due("give(33, 1) to a full TEXT", x.give(33, 1), false);
        c.due("give(33, 8) to a full TEXT", x.give(33, 8), false);
        c.due("give(33, 0) to a full TEXT", x.give(33, 0), false);
        c.due("all that it tells of a full TEXT", Checks.answers(x), told);
        x.wipe();
        c.due("give(32, 8) to the wiped TEXT", x.give(32, 8), true);
        c.due("look(0) of it", x.look(0), 8);
    }
}
