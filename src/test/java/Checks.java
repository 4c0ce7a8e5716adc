/** What the tests share: answers held against those that are due, and texts given as strings. */
final class Checks {
    /** An object is promised to answer for so many calls. */
    static final int MOST_CALLS = 512;

    private final String about;
    private int asked = 0;
    private int wrong = 0;

    Checks(String about) {
        this.about = about;
    }

    void due(String call, long got, long want) {
        asked++;
        if (got != want) {
            wrong++;
            String told = call.length() > 200 ? call.substring(0, 200) + ".." : call;
            System.out.println(about + ": " + told + " answered " + got + ", due is " + want);
        }
    }

    void due(String call, boolean got, boolean want) {
        due(call, got ? 1L : 0L, want ? 1L : 0L);
    }

    void end() {
        System.out.println(about + ": " + asked + " answers, " + wrong + " wrong");
        if (wrong != 0 || asked == 0) {
            System.exit(1);
        }
    }

    /** Each char of the text is one byte; as many as go into one call are given at once. */
    static boolean give(TwoLevelParser x, String text) {
        boolean all = true;
        for (int from = 0; from < text.length(); from += 8) {
            int to = Math.min(text.length(), from + 8);
            long v = 0;
            for (int i = from; i < to; i++) {
                v = v << 8 | text.charAt(i) & 255;
            }
            all &= x.give(v, to - from);
        }
        return all;
    }

    static TwoLevelParser given(String text) {
        TwoLevelParser x = new TwoLevelParser();
        if (!give(x, text)) {
            throw new IllegalArgumentException("too long: " + text.length());
        }
        return x;
    }

    TwoLevelParser readWell(String text) {
        TwoLevelParser x = given(text);
        due("read() of " + text, x.read(), 0);
        return x;
    }

    /** The ^ in the text marks the place of the fault and is not given. */
    void fault(int fault, String marked) {
        int place = marked.indexOf('^');
        String text = marked.substring(0, place) + marked.substring(place + 1);
        TwoLevelParser x = given(text);
        due("read() of " + marked, x.read(), fault);
        due("look(1) of " + marked, x.look(1), fault);
        due("look(2) of " + marked, x.look(2), place);
        due("look(3) of " + marked, x.look(3), 0);
        due("look(4) of " + marked, x.look(4), 0);
    }

    void nothingRead(String when, TwoLevelParser x) {
        due(when + " look(3)", x.look(3), 0);
        due(when + " look(4)", x.look(4), 0);
        for (int w = -1; w <= 10; w++) {
            due(when + " definition(0, " + w + ")", x.definition(0, w), TwoLevelParser.NONE);
            due(when + " node(0, " + w + ")", x.node(0, w), TwoLevelParser.NONE);
        }
        for (int i = -1; i <= 2; i++) {
            due(when + " title(0, " + i + ")", x.title(0, i), 0);
            due(when + " parameter(0, " + i + ")", x.parameter(0, i), TwoLevelParser.NONE);
            due(when + " name(0, " + i + ")", x.name(0, i), 0);
        }
        due(when + " number(0)", x.number(0), 0);
    }

    static long nameOf(String letters) {
        long name = 0;
        for (int i = 0; i < letters.length(); i++) {
            name = 32 * name + (letters.charAt(i) - 96);
        }
        return name;
    }

    static String times(int n, String part) {
        return part.repeat(n);
    }

    /** Different NAMES for different i, none of them a word of the language. */
    static String nameOfNumber(int i) {
        return "v" + (char) ('a' + i / 26 % 26) + (char) ('a' + i % 26) + "v";
    }
}
