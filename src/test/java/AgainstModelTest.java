import java.util.Random;

/** The class held against the Model, on texts that a seeded source makes: right ones, and spoilt ones. */
public final class AgainstModelTest {
    private static final int TEXTS = 30000;
    private static final int LONGEST = 3400;
    private static final int[] FAULTS = new int[4];

    private final Checks c = new Checks("against the model");
    private final Maker maker = new Maker(new Random(20261115));
    private TwoLevelParser x = new TwoLevelParser();
    private int calls = 0;

    public static void main(String[] args) {
        AgainstModelTest test = new AgainstModelTest();
        for (int i = 0; i < TEXTS; i++) {
            String text = test.maker.text();
            // A longer one would leave no calls to ask for all of it.
            if (text.length() <= LONGEST) {
                test.hold(text);
            }
        }
        for (int fault = 0; fault < FAULTS.length; fault++) {
            test.c.due("enough texts with " + fault, FAULTS[fault] > TEXTS / 40, true);
        }
        test.c.end();
    }

    /** The object is the one of the text before, while it has calls left, so that old rows are met too. */
    private void hold(String text) {
        Model model = new Model(text);
        FAULTS[model.fault]++;
        giveAnew(text, model);
        calls += 2;
        same(text, "look(3)", x.look(3), model.definitions.size());
        same(text, "look(4)", x.look(4), model.nodes.size());
        for (int d = -1; d <= model.definitions.size(); d++) {
            holdDefinition(text, model, d);
        }
        for (int k = -1; k <= model.nodes.size(); k++) {
            holdNode(text, model, k);
        }
    }

    private void giveAnew(String text, Model model) {
        int needed = 60 + text.length() / 8;
        if (calls + needed > Checks.MOST_CALLS) {
            x = new TwoLevelParser();
            calls = 0;
        }
        x.wipe();
        Checks.give(x, text);
        c.due("read() of " + text, x.read(), model.fault);
        c.due("look(0) of " + text, x.look(0), text.length());
        c.due("look(1) of " + text, x.look(1), model.fault);
        c.due("look(2) of " + text, x.look(2), model.faultPlace);
        calls += 6 + text.length() / 8;
    }

    private void roomFor(String text, int more, Model model) {
        if (calls + more > Checks.MOST_CALLS) {
            x = new TwoLevelParser();
            calls = 0;
            giveAnew(text, model);
        }
        calls += more;
    }

    private void same(String text, String call, long got, long want) {
        if (got != want) {
            c.due(call + " of " + text, got, want);
        }
    }

    private void holdDefinition(String text, Model model, int d) {
        roomFor(text, 26, model);
        boolean there = d >= 0 && d < model.definitions.size();
        Model.Definition m = there ? model.definitions.get(d) : null;
        int[] due = there ? new int[] {m.chg ? 1 : 0, m.type, m.names.size(), m.first, m.place} : new int[0];
        for (int w = -1; w < 6; w++) {
            same(text, "definition(" + d + ", " + w + ")", x.definition(d, w), w >= 0 && w < due.length ? due[w] : -1);
        }
        same(text, "title(" + d + ", -1)", x.title(d, -1), there ? Checks.nameOf(m.title) : 0);
        for (int i = 0; i < 9; i++) {
            boolean has = there && i < m.names.size();
            same(text, "title(" + d + ", " + i + ")", x.title(d, i), has ? Checks.nameOf(m.names.get(i)) : 0);
            same(text, "parameter(" + d + ", " + i + ")", x.parameter(d, i), has ? m.types.get(i) : -1);
        }
    }

    private void holdNode(String text, Model model, int k) {
        roomFor(text, 15, model);
        boolean there = k >= 0 && k < model.nodes.size();
        Model.Node m = there ? model.nodes.get(k) : new Model.Node();
        int first = m.places.isEmpty() ? -1 : m.places.get(0);
        int second = m.places.size() < 2 ? -1 : m.places.get(1);
        int[] due = there ? new int[] {m.kind, m.children, m.size, m.place, m.parent, first, second, m.variables} : new int[0];
        for (int w = -1; w < 9; w++) {
            same(text, "node(" + k + ", " + w + ")", x.node(k, w), w >= 0 && w < due.length ? due[w] : -1);
        }
        for (int i = -1; i < 3; i++) {
            long want = i >= 0 && i < m.names.size() ? Checks.nameOf(m.names.get(i)) : 0;
            same(text, "name(" + k + ", " + i + ")", x.name(k, i), want);
        }
        same(text, "number(" + k + ")", x.number(k), m.value);
    }

    /** Makes texts of the language, then spoils some of them at a byte or at a word. */
    private static final class Maker {
        private static final String[] NAMES = {"a", "b", "c", "x", "y", "zz", "longername", "twelveletter", "funny"};
        private static final String[] NUMBERS = {"0", "1", "-1", "007", "-0", "2147483647", "-2147483648", "42"};
        private static final String[] BAD = {"2147483648", "-", "a1", "1a", "thirteenlette", "--1", "!", "A", "\t"};
        private static final String[] TYPES = {"int", "list", "imod", "lmod"};
        private static final String[] TWO = {"add", "sub", "mul", "div", "rem", "less", "same", "cons"};
        private final Random random;
        private final StringBuilder out = new StringBuilder();
        private int left = 0;

        Maker(Random random) {
            this.random = random;
        }

        String text() {
            out.setLength(0);
            int definitions = random.nextInt(100) == 0 ? 60 + random.nextInt(8) : random.nextInt(4);
            for (int i = 0; i < definitions; i++) {
                left = definitions > 10 ? 2 : 1 + random.nextInt(60);
                definition(i);
            }
            String text = out.toString();
            int spoils = random.nextInt(3);
            for (int i = 0; i < spoils && !text.isEmpty(); i++) {
                text = spoilt(text);
            }
            return text;
        }

        private String spoilt(String text) {
            int from = random.nextInt(text.length());
            int to = Math.min(text.length(), from + random.nextInt(6));
            switch (random.nextInt(7)) {
                case 0: return text.substring(0, from);
                case 1: return text.substring(0, from) + text.substring(to);
                case 2: return text.substring(0, from) + " " + any(BAD) + " " + text.substring(from);
                case 3: return text.substring(0, from) + (char) random.nextInt(256) + text.substring(from);
                case 4: return text.substring(0, from) + " " + any(Model.WORDS.toArray(new String[0])) + " " + text.substring(from);
                case 5: return text.substring(0, from) + any(new String[] {"(", ")", " 1 ", " x ", "\n"}) + text.substring(from);
                default: return text + any(new String[] {"(", ")", " 1", "\n", "  "});
            }
        }

        private String any(String[] of) {
            return of[random.nextInt(of.length)];
        }

        private void word(String word) {
            char last = out.length() == 0 ? '(' : out.charAt(out.length() - 1);
            boolean joined = last != '(' && last != ')' && last != ' ' && last != '\n';
            boolean bracket = word.equals("(") || word.equals(")");
            if (joined && !bracket || random.nextInt(5) == 0) {
                out.append(random.nextInt(6) == 0 ? "\n" : " ");
            }
            out.append(word);
        }

        private void words(String... all) {
            for (String word : all) {
                word(word);
            }
        }

        private void definition(int i) {
            boolean chg = random.nextBoolean();
            words("(", chg ? "chg" : "fun", random.nextInt(30) == 0 ? any(NAMES) : Checks.nameOfNumber(i), "(");
            int parameters = random.nextInt(12) == 0 ? 7 + random.nextInt(3) : random.nextInt(4);
            for (int p = 0; p < parameters; p++) {
                words("(", random.nextInt(40) == 0 ? any(NAMES) : Checks.nameOfNumber(p), any(TYPES), ")");
            }
            words(")", random.nextInt(40) == 0 ? any(TYPES) : TYPES[random.nextInt(chg ? 2 : 4)]);
            int lets = random.nextInt(15) == 0 ? 14 + random.nextInt(11) : 0;
            for (int n = 0; n < lets; n++) {
                words("(", "let", any(NAMES), any(NUMBERS));
            }
            one(chg);
            for (int n = 0; n < lets; n++) {
                word(")");
            }
            word(")");
        }

        private void one(boolean change) {
            if (change) {
                change();
            } else {
                expression();
            }
        }

        private void expression() {
            left--;
            if (left < 0 || random.nextInt(4) == 0) {
                word(random.nextInt(3) == 0 ? "nil" : random.nextBoolean() ? any(NAMES) : any(NUMBERS));
                return;
            }
            word("(");
            switch (random.nextInt(6)) {
                case 0: choice(false); break;
                case 1: let(false); break;
                case 2: cases(false); break;
                case 3: call(random.nextBoolean() ? "call" : "memo"); break;
                case 4: word(random.nextBoolean() ? "imod" : "lmod"); change(); break;
                default: word(any(TWO)); expression(); expression();
            }
            word(")");
        }

        private void change() {
            left--;
            word("(");
            switch (left < 0 ? 0 : random.nextInt(6)) {
                case 0: word("write"); expression(); break;
                case 1: choice(true); break;
                case 2: let(true); break;
                case 3: cases(true); break;
                case 4: call("jump"); break;
                default: word("read"); expression(); word(any(NAMES)); change();
            }
            word(")");
        }

        private void choice(boolean change) {
            word("if");
            expression();
            one(change);
            one(change);
        }

        private void let(boolean change) {
            words("let", any(NAMES));
            expression();
            one(change);
        }

        private void cases(boolean change) {
            word("case");
            expression();
            one(change);
            words("(", any(NAMES), random.nextInt(4) == 0 ? any(NAMES) : "tail");
            one(change);
            word(")");
        }

        private void call(String head) {
            words(head, any(NAMES));
            for (int n = random.nextInt(4); n > 0; n--) {
                expression();
            }
        }
    }
}
