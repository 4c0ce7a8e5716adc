import java.io.IOException;
import java.nio.charset.StandardCharsets;
import java.nio.file.Files;
import java.nio.file.Path;

/** What the tests share: answers held against those that are due, and texts given as strings. */
final class Checks {
    /** An object is promised to answer for so many calls. */
    static final int MOST_CALLS = 512;

    private static final String DOCUMENT = document();

    private final String about;
    private String sentence = "";
    private int asked = 0;
    private int askedBefore = -1;
    private int wrong = 0;

    Checks(String about) {
        this.about = about;
    }

    /** From here on the answers are held for this sentence, which is told with each wrong one. */
    void sentence(String promises, String words) {
        closeSentence();
        sentence = ", " + promises + ", \"" + words + "\"";
        if (!DOCUMENT.isEmpty()) {
            due("does this stand in the document", DOCUMENT.contains(words), true);
        }
        askedBefore = asked;
    }

    /** A sentence without one answer behind it is named, but not tested. */
    private void closeSentence() {
        if (asked == askedBefore) {
            wrong++;
            System.out.println(about + sentence + ": nothing asked");
        }
    }

    void due(String call, long got, long want) {
        asked++;
        if (got != want) {
            wrong++;
            System.out.println(about + sentence + ": " + shortened(call) + " answered " + got + ", due is " + want);
        }
    }

    void due(String call, boolean got, boolean want) {
        due(call, got ? 1L : 0L, want ? 1L : 0L);
    }

    void due(String call, String got, String want) {
        due(call + ": " + got + " is to be " + want, got.equals(want), true);
    }

    void end() {
        closeSentence();
        System.out.println(about + ": " + asked + " answers, " + wrong + " wrong");
        if (wrong != 0 || asked == 0) {
            System.exit(1);
        }
    }

    private static String shortened(String call) {
        return call.length() > 300 ? call.substring(0, 300) + ".." : call;
    }

    /** The quotes are held against the document where it is at hand; without it the answers are. */
    private static String document() {
        Path path = Path.of("../shared/DOC.md");
        try {
            return Files.isReadable(path) ? Files.readString(path, StandardCharsets.UTF_8) : "";
        } catch (IOException unread) {
            return "";
        }
    }

    /** Each char of the text is one byte; as many as go into one call are given at once. */
    static boolean give(TwoLevelParser x, String text) {
        boolean all = true;
        for (int from = 0; from < text.length(); from += 8) {
            int to = Math.min(text.length(), from + 8);
            long v = 0;
            for (int i = from; i < to; i++) {
                v = v << 8 | text.charAt(i) & 255;
            }
            all &= x.give(v, to - from);
        }
        return all;
    }

    static TwoLevelParser given(String text) {
        TwoLevelParser x = new TwoLevelParser();
        if (!give(x, text)) {
            throw new IllegalArgumentException("too long: " + text.length());
        }
        return x;
    }

    TwoLevelParser readWell(String text) {
        TwoLevelParser x = given(text);
        due("read() of " + text, x.read(), 0);
        due("look(1) of " + text, x.look(1), 0);
        due("look(2) of " + text, x.look(2), -1);
        return x;
    }

    /** The ^ in the text marks the place of the fault and is not given. */
    TwoLevelParser fault(int fault, String marked) {
        int place = marked.indexOf('^');
        String text = marked.substring(0, place) + marked.substring(place + 1);
        TwoLevelParser x = given(text);
        due("read() of " + marked, x.read(), fault);
        due("look(0) of " + marked, x.look(0), text.length());
        due("look(1) of " + marked, x.look(1), fault);
        due("look(2) of " + marked, x.look(2), place);
        due("look(3) of " + marked, x.look(3), 0);
        due("look(4) of " + marked, x.look(4), 0);
        return x;
    }

    void nothingRead(String when, TwoLevelParser x) {
        due(when + " look(3)", x.look(3), 0);
        due(when + " look(4)", x.look(4), 0);
        for (int at = -1; at <= 1; at++) {
            for (int w = -1; w <= 8; w++) {
                due(when + " definition(" + at + ", " + w + ")", x.definition(at, w), TwoLevelParser.NONE);
                due(when + " node(" + at + ", " + w + ")", x.node(at, w), TwoLevelParser.NONE);
            }
            for (int i = -1; i <= 2; i++) {
                due(when + " title(" + at + ", " + i + ")", x.title(at, i), 0);
                due(when + " parameter(" + at + ", " + i + ")", x.parameter(at, i), TwoLevelParser.NONE);
                due(when + " name(" + at + ", " + i + ")", x.name(at, i), 0);
            }
            due(when + " number(" + at + ")", x.number(at), 0);
        }
    }

    /** All that the object tells, to be held against what it tells later. Each answer is a call. */
    static String answers(TwoLevelParser x) {
        return "text " + x.look(0) + " fault " + x.look(1) + " at " + x.look(2) + " " + readAnswers(x);
    }

    /** What was read, without the TEXT and the fault. */
    static String readAnswers(TwoLevelParser x) {
        StringBuilder all = new StringBuilder();
        int definitions = x.look(3);
        int nodes = x.look(4);
        for (int d = 0; d < definitions; d++) {
            all.append("d").append(d);
            for (int w = 0; w <= 4; w++) {
                all.append(' ').append(x.definition(d, w));
            }
            for (int i = -1; i <= x.definition(d, 2); i++) {
                all.append(' ').append(x.title(d, i)).append('/').append(x.parameter(d, i));
            }
        }
        for (int k = 0; k < nodes; k++) {
            all.append(" n").append(k);
            for (int w = 0; w <= 7; w++) {
                all.append(' ').append(x.node(k, w));
            }
            all.append(' ').append(x.name(k, 0)).append('/').append(x.name(k, 1)).append('/').append(x.number(k));
        }
        return all.toString();
    }

    /**
     * Numbers that are none of a row of so many: those next to it, the ends of int, and those that
     * come back into the row when they are multiplied by a row's width and wrap around.
     */
    static int[] outside(int rows) {
        int[] none = new int[8 + 63];
        int[] known = {-1, -2, Integer.MIN_VALUE, Integer.MIN_VALUE + 1, rows, rows + 1, Integer.MAX_VALUE - 1,
            Integer.MAX_VALUE};
        System.arraycopy(known, 0, none, 0, known.length);
        for (int width = 2; width <= 64; width++) {
            long wraps = ((1L << 32) + width - 1) / width;
            none[known.length + width - 2] = (int) wraps;
        }
        return none;
    }

    static long nameOf(String letters) {
        long name = 0;
        for (int i = 0; i < letters.length(); i++) {
            name = 32 * name + (letters.charAt(i) - 96);
        }
        return name;
    }

    static String times(int n, String part) {
        return part.repeat(n);
    }

    /** Different NAMES for different i, none of them a word of the language. */
    static String nameOfNumber(int i) {
        return "v" + (char) ('a' + i / 26 % 26) + (char) ('a' + i % 26) + "v";
    }

    /** So many DEFINITIONS, each with its number as its one NODE. */
    static String definitions(int n) {
        StringBuilder all = new StringBuilder();
        for (int i = 0; i < n; i++) {
            all.append("(fun ").append(nameOfNumber(i)).append("()int ").append(i).append(")");
        }
        return all.toString();
    }

    /** So many parameters pa, pb .., of the TYPES in turn. */
    static String parameters(int n) {
        String[] types = {"int", "list", "imod", "lmod"};
        StringBuilder all = new StringBuilder();
        for (int i = 0; i < n; i++) {
            all.append("(p").append((char) ('a' + i)).append(' ').append(types[i % 4]).append(')');
        }
        return all.toString();
    }
}
