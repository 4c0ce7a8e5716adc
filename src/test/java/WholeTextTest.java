/**
 * The document from its first sentence on: one TEXT with every kind of NODE in it, worked out by hand.
 * In the marked text [k] stands before the first TOKEN of NODE k, {k} before a NAME of NODE k, and <d>
 * before the NAME of DEFINITION d; the marks are taken out before it is given.
 */
public final class WholeTextTest {
    private static final Checks c = new Checks("whole text");

    private static final String MARKED =
        "(fun <0>one ((a int) (b list)) imod "
        + "[0](imod [1](read [2]{2}a {1}x [3](if [4]{4}x [5](write [6]nil) [7](jump {7}two [8]{8}x [9]-1))))) "
        + "(chg <1>two ((c lmod)) list "
        + "[10](case [11](cons [12](call {12}one [13]7) [14](memo {14}one)) "
        + "[15](let {15}y [16](let {16}z [17](add [18](sub [19]1 [20]2) [21](mul [22]3 [23]4)) "
        + "[24](div [25](rem [26]5 [27]6) [28](less [29](same [30]{30}z [31]{31}y) "
        + "[32](if [33]0 [34](case [35]nil [36]8 ({34}p {34}q [37]{37}p)) [38](lmod [39](write [40]{40}c)))))) "
        + "[41](write [42]{42}y)) "
        + "({10}h {10}t [43](write [44]{44}h)))) "
        + "(fun <2>three () int [45]2147483647) ";

    private static final int[] KINDS = {16, 18, 1, 20, 1, 19, 2, 23, 1, 0,
        22, 13, 14, 0, 15, 21, 11, 3, 4, 0, 0, 5, 0, 0, 6, 7, 0, 0, 8, 9, 1, 1, 10, 0, 12, 2, 0, 1, 17, 19, 1, 19, 1, 19, 1,
        0};
    private static final int[] PARENTS = {-1, 0, 1, 1, 3, 3, 5, 3, 7, 7,
        -1, 10, 11, 12, 11, 10, 15, 16, 17, 18, 18, 17, 21, 21, 16, 24, 25, 25, 24, 28, 29, 29, 28, 32, 32, 34, 34, 34, 32,
        38, 39, 15, 41, 10, 43,
        -1};
    private static final int[] VARIABLES = {2, 2, 2, 3, 3, 3, 3, 3, 3, 3,
        1, 1, 1, 1, 1, 1, 1, 1, 1, 1, 1, 1, 1, 1, 2, 2, 2, 2, 2, 2, 2, 2, 2, 2, 2, 2, 2, 4, 2, 2, 2, 2, 2, 3, 3,
        0};
    private static final int[] VALUES = {0, 0, 0, 0, 0, 0, 0, 0, 0, -1,
        0, 0, 0, 7, 0, 0, 0, 0, 0, 1, 2, 0, 3, 4, 0, 0, 5, 6, 0, 0, 0, 0, 0, 0, 0, 0, 8, 0, 0, 0, 0, 0, 0, 0, 0,
        2147483647};

    private TwoLevelParser x = new TwoLevelParser();
    private final String marked;
    private final String text;

    private WholeTextTest(String marked) {
        this.marked = marked;
        this.text = unmarked(marked);
    }

    public static void main(String[] args) {
        c.sentence("all promises", "Texts of a language of two levels, read to the last word: "
            + "definitions and expressions as nodes in their order, or the first fault and its place.");
        allKinds();
        new WholeTextTest(MARKED).hold();
        new WholeTextTest(MARKED.replace(" ", " \n  ")).hold();
        new WholeTextTest("\n\n" + MARKED.replace("(", "( ").replace(")", " )")).hold();
        new WholeTextTest(MARKED.replace(") ", ")").replaceAll(" ((\\[[0-9]+\\])?\\()", "$1")).hold();
        c.sentence("promise 8", "The number of its kind is said above.");
        new WholeTextTest(MARKED).holdKinds();
        c.sentence("promises 4, 11", "or the first fault and its place");
        cutBeforeEachToken();
        c.end();
    }

    /** The text is of use only if it leaves no kind out. */
    private static void allKinds() {
        boolean[] seen = new boolean[24];
        for (int kind : KINDS) {
            seen[kind] = true;
        }
        for (int kind = 0; kind < seen.length; kind++) {
            c.due("is kind " + kind + " in the text", seen[kind], true);
        }
    }

    private static String unmarked(String marked) {
        return marked.replaceAll("\\[[0-9]+\\]|\\{[0-9]+\\}|<[0-9]+>", "");
    }

    /** The place of what stands behind the mark, NONE without such a mark. */
    private int placeOf(String mark, int from) {
        int at = marked.indexOf(mark, from);
        return at < 0 ? -1 : unmarked(marked.substring(0, at)).length();
    }

    private String nameBehind(String mark, int from) {
        int at = marked.indexOf(mark, from);
        return at < 0 ? "" : marked.substring(at + mark.length()).split("[^a-z]", 2)[0];
    }

    private int behindFirst(String mark) {
        int at = marked.indexOf(mark);
        return at < 0 ? marked.length() : at + 1;
    }

    /** A new object for each part, as an object has no more than 512 calls. */
    private void readAnew() {
        x = c.readWell(text);
    }

    private void hold() {
        readAnew();
        c.due("look(0)", x.look(0), text.length());
        c.due("look(3)", x.look(3), 3);
        c.due("look(4)", x.look(4), KINDS.length);
        definition(0, new int[] {0, 2, 2, 0}, "one", new String[] {"a", "b"}, new int[] {0, 1});
        definition(1, new int[] {1, 1, 1, 10}, "two", new String[] {"c"}, new int[] {3});
        definition(2, new int[] {0, 0, 0, 45}, "three", new String[] {}, new int[] {});
        for (int k = 0; k < KINDS.length; k++) {
            if (k % 20 == 0) {
                readAnew();
            }
            node(k);
        }
    }

    private void holdKinds() {
        readAnew();
        for (int k = 0; k < KINDS.length; k++) {
            c.due("node(" + k + ", 0)", x.node(k, 0), KINDS[k]);
        }
    }

    private void definition(int d, int[] due, String title, String[] names, int[] types) {
        for (int w = 0; w < due.length; w++) {
            c.due("definition(" + d + ", " + w + ")", x.definition(d, w), due[w]);
        }
        c.due("definition(" + d + ", 4)", x.definition(d, 4), placeOf("<" + d + ">", 0));
        c.due("title(" + d + ", -1)", x.title(d, -1), Checks.nameOf(title));
        for (int i = 0; i <= names.length; i++) {
            boolean there = i < names.length;
            c.due("title(" + d + ", " + i + ")", x.title(d, i), there ? Checks.nameOf(names[i]) : 0);
            c.due("parameter(" + d + ", " + i + ")", x.parameter(d, i), there ? types[i] : -1);
        }
    }

    private void node(int k) {
        String mark = "{" + k + "}";
        int second = behindFirst(mark);
        int[] due = {KINDS[k], childrenOf(k), sizeOf(k), placeOf("[" + k + "]", 0), PARENTS[k], placeOf(mark, 0),
            placeOf(mark, second), VARIABLES[k]};
        for (int w = 0; w < due.length; w++) {
            c.due("node(" + k + ", " + w + ") of " + text, x.node(k, w), due[w]);
        }
        c.due("name(" + k + ", 0)", x.name(k, 0), Checks.nameOf(nameBehind(mark, 0)));
        c.due("name(" + k + ", 1)", x.name(k, 1), Checks.nameOf(nameBehind(mark, second)));
        c.due("number(" + k + ")", x.number(k), VALUES[k]);
    }

    private static int childrenOf(int k) {
        int children = 0;
        for (int parent : PARENTS) {
            children += parent == k ? 1 : 0;
        }
        return children;
    }

    private static int sizeOf(int k) {
        int size = 1;
        for (int other = k + 1; other < PARENTS.length; other++) {
            size += PARENTS[other] == k ? sizeOf(other) : 0;
        }
        return size;
    }

    /** Without what stands behind, a TOKEN has to be at the end, but for the ends of DEFINITIONS. */
    private static void cutBeforeEachToken() {
        String text = unmarked(MARKED);
        int depth = 0;
        for (int at = 0; at < text.length(); at++) {
            char here = text.charAt(at);
            boolean begins = "()".indexOf(here) >= 0 || here != ' ' && " (".indexOf(text.charAt(at - 1)) >= 0;
            String before = text.substring(0, at);
            if (begins && depth == 0) {
                c.readWell(before);
                c.fault(2, before + " ^x" + text.substring(at));
            } else if (begins) {
                c.fault(3, before + "^");
                c.fault(3, before + " \n^");
                c.fault(1, before + "^!" + text.substring(at));
            }
            depth += here == '(' ? 1 : here == ')' ? -1 : 0;
        }
    }
}
