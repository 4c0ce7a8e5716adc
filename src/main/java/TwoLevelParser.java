import java.util.Arrays;

/**
 * Texts of a language of two levels, read to the last word: definitions and expressions as nodes
 * in their order, or the first fault and its place.
 */
public final class TwoLevelParser {
    public static final int NONE = -1;

    private static final int MOST_BYTES = 8192;
    private static final int MOST_DEFINITIONS = 64;
    private static final int MOST_PARAMETERS = 8;
    private static final int MOST_VARIABLES = 24;
    private static final int MOST_LETTERS = 12;

    private static final int FAULT_TOKEN = 1;
    private static final int FAULT_PLACE = 2;
    private static final int FAULT_END = 3;

    // The first columns of a DEFINITION are numbered as definition(d, w) numbers them.
    private static final int LEVEL = 0;
    private static final int TYPE = 1;
    private static final int PARAMETERS = 2;
    private static final int FIRST_NODE = 3;
    private static final int TITLE_PLACE = 4;
    private static final int PARAMETER_TYPES = 5;
    private static final int DEFINITION_WIDTH = PARAMETER_TYPES + MOST_PARAMETERS;

    // The NAMES of a DEFINITION: its own, then those of its parameters.
    private static final int TITLE = 0;
    private static final int PARAMETER_NAMES = 1;
    private static final int DEFINITION_NAMES = PARAMETER_NAMES + MOST_PARAMETERS;

    // The first columns of a NODE are numbered as node(k, w) numbers them.
    private static final int KIND = 0;
    private static final int CHILDREN = 1;
    private static final int SIZE = 2;
    private static final int PLACE = 3;
    private static final int PARENT = 4;
    private static final int NAME_PLACE = 5;
    private static final int SECOND_PLACE = 6;
    private static final int VARIABLES = 7;
    private static final int VALUE = 8;
    private static final int STEP = 9;
    private static final int NODE_WIDTH = 10;
    private static final int NODE_NAMES = 2;

    // The kinds that the code has to tell apart; the others are known by their words alone.
    private static final int KIND_NUMBER = 0;
    private static final int KIND_VARIABLE = 1;
    private static final int KIND_NIL = 2;
    private static final int FIRST_HEADED_E = 3;
    private static final int LAST_E = 17;

    // Places in WORDS.
    private static final int WORD_FUN = 0;
    private static final int WORD_CHG = 1;
    private static final int WORD_NIL = 2;
    private static final int WORD_IF = 10;
    private static final int WORD_LET = 11;
    private static final int WORD_CASE = 12;
    private static final int WORD_IMOD = 16;
    private static final int WORD_LMOD = 17;
    private static final int WORD_READ = 18;
    private static final int WORD_WRITE = 19;
    private static final int WORD_JUMP = 20;
    private static final int WORD_INT = 21;
    private static final int WORD_LIST = 22;

    // The words as NAMES; an E that begins with a word has that word's place here as its kind.
    private static final long[] WORDS = {
        6830L, 3335L, 14636L,                                   // fun chg nil
        1156L, 20130L, 13996L, 4406L, 18605L, 398963L, 624037L, // add sub mul div rem less same
        294L, 12468L, 99941L, 114131L, 99724L, 431535L,         // if let case cons call memo
        308708L, 407012L,                                       // imod lmod
        594980L, 24716933L, 349616L,                            // read write jump
        9684L, 403060L                                          // int list
    };

    private final Parser parser = new Parser();

    public TwoLevelParser() {
    }

    public boolean give(long v, int n) {
        return parser.text.append(v, n);
    }

    public void wipe() {
        parser.text.clear();
    }

    public int read() {
        return parser.parse();
    }

    public int definition(int d, int w) {
        return w > TITLE_PLACE ? NONE : parser.definitions.numberAt(d, w);
    }

    public long title(int d, int i) {
        return i < -1 || i >= MOST_PARAMETERS ? 0L : parser.definitions.nameAt(d, i + PARAMETER_NAMES);
    }

    public int parameter(int d, int i) {
        return i < 0 || i >= MOST_PARAMETERS ? NONE : parser.definitions.numberAt(d, i + PARAMETER_TYPES);
    }

    public int node(int k, int w) {
        return w > VARIABLES ? NONE : parser.nodes.numberAt(k, w);
    }

    public long name(int k, int i) {
        return parser.nodes.nameAt(k, i);
    }

    public int number(int k) {
        return parser.nodes.numberAt(k, KIND) == KIND_NUMBER ? parser.nodes.numberAt(k, VALUE) : 0;
    }

    public int look(int which) {
        switch (which) {
            case 0: return parser.text.size();
            case 1: return parser.fault;
            case 2: return parser.faultPlace;
            case 3: return parser.definitions.size();
            case 4: return parser.nodes.size();
            default: return NONE;
        }
    }

    /**
     * The TEXT, and the TOKEN of it that is looked at. The row of bytes grows with what is given, so
     * that many small objects stay cheap.
     */
    private static final class Text {
        static final int END = 0;
        static final int BAD = 1;
        static final int OPEN = 2;
        static final int CLOSE = 3;
        static final int NAME = 4;
        static final int NUMBER = 5;

        private static final int FIRST_ROOM = 64;
        private static final int MOST_AT_ONCE = 8;

        private byte[] bytes = new byte[FIRST_ROOM];
        private int length = 0;
        private int next = 0;

        int token = END;
        int place = 0;
        long name = 0L;
        int word = NONE;
        int value = 0;

        int size() {
            return length;
        }

        void clear() {
            length = 0;
        }

        boolean append(long v, int n) {
            if (n < 1 || n > MOST_AT_ONCE || n > MOST_BYTES - length) {
                return false;
            }
            if (length + n > bytes.length) {
                bytes = Arrays.copyOf(bytes, 2 * bytes.length);
            }
            for (int left = n - 1; left >= 0; left--) {
                bytes[length] = (byte) (v >>> (8 * left));
                length++;
            }
            return true;
        }

        private int byteAt(int at) {
            return at >= 0 && at < length ? bytes[at] & 255 : NONE;
        }

        void toFirstToken() {
            next = 0;
            toNextToken();
        }

        void toNextToken() {
            while (next < length && isBlank(byteAt(next))) {
                next++;
            }
            place = next;
            int first = byteAt(place);
            if (first == NONE) {
                token = END;
            } else if (isJoined(first)) {
                scanJoined(first);
            } else {
                token = first == '(' ? OPEN : first == ')' ? CLOSE : BAD;
                next = place + 1;
            }
        }

        /** What is joined is one TOKEN or none, so all of it is passed before it is judged. */
        private void scanJoined(int first) {
            while (next < length && isJoined(byteAt(next))) {
                next++;
            }
            if (isLetter(first)) {
                token = scansName() ? NAME : BAD;
            } else {
                token = scansNumber(first == '-') ? NUMBER : BAD;
            }
        }

        private boolean scansName() {
            if (next - place > MOST_LETTERS) {
                return false;
            }
            name = 0L;
            for (int i = place; i < next; i++) {
                int letter = byteAt(i);
                if (!isLetter(letter)) {
                    return false;
                }
                name = name * 32 + (letter - 'a' + 1);
            }
            word = wordOf(name);
            return true;
        }

        private boolean scansNumber(boolean negative) {
            int from = negative ? place + 1 : place;
            long most = negative ? 2147483648L : 2147483647L;
            long amount = 0L;
            for (int i = from; i < next; i++) {
                int digit = byteAt(i);
                if (!isDigit(digit)) {
                    return false;
                }
                amount = amount * 10 + (digit - '0');
                // Asked at each digit: a NUMBER of any length would not fit into a long.
                if (amount > most) {
                    return false;
                }
            }
            value = (int) (negative ? -amount : amount);
            return from < next;
        }

        private static int wordOf(long name) {
            for (int i = 0; i < WORDS.length; i++) {
                if (WORDS[i] == name) {
                    return i;
                }
            }
            return NONE;
        }

        private static boolean isBlank(int b) {
            return b == ' ' || b == '\n';
        }

        private static boolean isLetter(int b) {
            return b >= 'a' && b <= 'z';
        }

        private static boolean isDigit(int b) {
            return b >= '0' && b <= '9';
        }

        private static boolean isJoined(int b) {
            return isLetter(b) || isDigit(b) || b == '-';
        }
    }

    /** Rows of numbers and NAMES. Every index is tested here, so that no caller has to. */
    private static final class Records {
        private static final int FIRST_ROWS = 4;

        private final int width;
        private final int namesWidth;
        private int[] numbers;
        private long[] names;
        private int rows = 0;

        Records(int width, int namesWidth) {
            this.width = Math.max(width, 1);
            this.namesWidth = Math.max(namesWidth, 1);
            numbers = new int[FIRST_ROWS * this.width];
            names = new long[FIRST_ROWS * this.namesWidth];
        }

        int size() {
            return rows;
        }

        void clear() {
            rows = 0;
        }

        /** A row without anything: rows are used again, so what stood there has to go. */
        int addRow() {
            int row = rows;
            if ((row + 1) * width > numbers.length) {
                numbers = Arrays.copyOf(numbers, 2 * numbers.length);
                names = Arrays.copyOf(names, 2 * names.length);
            }
            rows++;
            for (int column = 0; column < width; column++) {
                setNumber(row, column, NONE);
            }
            for (int column = 0; column < namesWidth; column++) {
                setName(row, column, 0L);
            }
            return row;
        }

        int numberAt(int row, int column) {
            boolean there = row >= 0 && row < rows && column >= 0 && column < width;
            return there ? numbers[row * width + column] : NONE;
        }

        void setNumber(int row, int column, int value) {
            if (row >= 0 && row < rows && column >= 0 && column < width) {
                numbers[row * width + column] = value;
            }
        }

        long nameAt(int row, int column) {
            boolean there = row >= 0 && row < rows && column >= 0 && column < namesWidth;
            return there ? names[row * namesWidth + column] : 0L;
        }

        void setName(int row, int column, long name) {
            if (row >= 0 && row < rows && column >= 0 && column < namesWidth) {
                names[row * namesWidth + column] = name;
            }
        }
    }

    /**
     * Takes TOKEN by TOKEN. E and C nest as deep as the TEXT has room, so nothing here recurs: the
     * open NODES are the stack, each with its PARENT and with its STEP in the shape of its kind.
     */
    private static final class Parser {
        private static final int AT_TOP = 0;
        private static final int AT_LEVEL = 1;
        private static final int AT_TITLE = 2;
        private static final int AT_LIST_START = 3;
        private static final int AT_LIST = 4;
        private static final int AT_PARAMETER = 5;
        private static final int AT_PARAMETER_TYPE = 6;
        private static final int AT_PARAMETER_END = 7;
        private static final int AT_TYPE = 8;
        private static final int AT_BODY = 9;
        private static final int AT_HEAD_OF_E = 10;
        private static final int AT_HEAD_OF_C = 11;
        private static final int IN_NODE = 12;
        private static final int AT_DEFINITION_END = 13;

        final Text text = new Text();
        final Records definitions = new Records(DEFINITION_WIDTH, DEFINITION_NAMES);
        final Records nodes = new Records(NODE_WIDTH, NODE_NAMES);
        int fault = 0;
        int faultPlace = NONE;

        private int stage = AT_TOP;
        private int latest = NONE;
        private int open = NONE;
        private char wanted = '.';

        int parse() {
            start();
            for (int left = text.size(); left > 0 && fault == 0 && text.token != Text.END; left--) {
                if (text.token == Text.BAD) {
                    fault = FAULT_TOKEN;
                } else if (stage == IN_NODE ? takesStep() : takesOutside()) {
                    text.toNextToken();
                } else {
                    fault = FAULT_PLACE;
                }
            }
            if (fault == 0 && stage != AT_TOP) {
                fault = FAULT_END;
            }
            if (fault != 0) {
                faultPlace = text.place;
                definitions.clear();
                nodes.clear();
            }
            return fault;
        }

        private void start() {
            definitions.clear();
            nodes.clear();
            stage = AT_TOP;
            latest = NONE;
            open = NONE;
            fault = 0;
            faultPlace = NONE;
            text.toFirstToken();
        }

        private boolean takesOutside() {
            switch (stage) {
                case AT_TOP: return beginsDefinition();
                case AT_LEVEL: return takesLevel();
                case AT_TITLE: return takesTitle();
                case AT_LIST_START: return passes(Text.OPEN, AT_LIST);
                case AT_LIST: return takesParameterOrEnd();
                case AT_PARAMETER: return takesParameter();
                case AT_PARAMETER_TYPE: return takesParameterType();
                case AT_PARAMETER_END: return passes(Text.CLOSE, AT_LIST);
                case AT_TYPE: return takesType();
                case AT_BODY: return isChange() ? beginsC() : beginsE();
                case AT_HEAD_OF_E: return takesHead(kindOfE());
                case AT_HEAD_OF_C: return takesHead(kindOfC());
                default: return passes(Text.CLOSE, AT_TOP);
            }
        }

        private boolean passes(int token, int then) {
            if (text.token != token) {
                return false;
            }
            stage = then;
            return true;
        }

        private boolean isFreeName() {
            return text.token == Text.NAME && text.word == NONE;
        }

        private int wordHere() {
            return text.token == Text.NAME ? text.word : NONE;
        }

        private int typeHere() {
            switch (wordHere()) {
                case WORD_INT: return 0;
                case WORD_LIST: return 1;
                case WORD_IMOD: return 2;
                case WORD_LMOD: return 3;
                default: return NONE;
            }
        }

        private boolean beginsDefinition() {
            if (definitions.size() >= MOST_DEFINITIONS || !passes(Text.OPEN, AT_LEVEL)) {
                return false;
            }
            latest = definitions.addRow();
            definitions.setNumber(latest, PARAMETERS, 0);
            return true;
        }

        private boolean takesLevel() {
            int word = wordHere();
            if (word != WORD_FUN && word != WORD_CHG) {
                return false;
            }
            definitions.setNumber(latest, LEVEL, word == WORD_CHG ? 1 : 0);
            stage = AT_TITLE;
            return true;
        }

        private boolean takesTitle() {
            if (!isFreeName()) {
                return false;
            }
            for (int d = 0; d < latest; d++) {
                if (definitions.nameAt(d, TITLE) == text.name) {
                    return false;
                }
            }
            definitions.setName(latest, TITLE, text.name);
            definitions.setNumber(latest, TITLE_PLACE, text.place);
            stage = AT_LIST_START;
            return true;
        }

        private boolean takesParameterOrEnd() {
            if (text.token == Text.CLOSE) {
                stage = AT_TYPE;
                return true;
            }
            return definitions.numberAt(latest, PARAMETERS) < MOST_PARAMETERS
                && passes(Text.OPEN, AT_PARAMETER);
        }

        private boolean takesParameter() {
            if (!isFreeName()) {
                return false;
            }
            int parameters = definitions.numberAt(latest, PARAMETERS);
            for (int i = 0; i < parameters; i++) {
                if (definitions.nameAt(latest, PARAMETER_NAMES + i) == text.name) {
                    return false;
                }
            }
            definitions.setName(latest, PARAMETER_NAMES + parameters, text.name);
            stage = AT_PARAMETER_TYPE;
            return true;
        }

        private boolean takesParameterType() {
            int type = typeHere();
            if (type == NONE) {
                return false;
            }
            int parameters = definitions.numberAt(latest, PARAMETERS);
            definitions.setNumber(latest, PARAMETER_TYPES + parameters, type);
            definitions.setNumber(latest, PARAMETERS, parameters + 1);
            stage = AT_PARAMETER_END;
            return true;
        }

        private boolean takesType() {
            int type = typeHere();
            if (type == NONE || (type > 1 && isChange())) {
                return false;
            }
            definitions.setNumber(latest, TYPE, type);
            definitions.setNumber(latest, FIRST_NODE, nodes.size());
            stage = AT_BODY;
            return true;
        }

        private boolean isChange() {
            return definitions.numberAt(latest, LEVEL) == 1;
        }

        private int kindOfE() {
            int word = wordHere();
            return word >= FIRST_HEADED_E && word <= LAST_E ? word : NONE;
        }

        private int kindOfC() {
            switch (wordHere()) {
                case WORD_READ: return 18;
                case WORD_WRITE: return 19;
                case WORD_IF: return 20;
                case WORD_LET: return 21;
                case WORD_CASE: return 22;
                case WORD_JUMP: return 23;
                default: return NONE;
            }
        }

        private boolean takesHead(int kind) {
            if (kind == NONE) {
                return false;
            }
            nodes.setNumber(open, KIND, kind);
            nodes.setNumber(open, STEP, 0);
            stage = IN_NODE;
            return true;
        }

        /**
         * What stands behind the word of a kind, up to its last ). E and C: one of these; e and c:
         * one that has the NAMES of the NODE as variables; X and Y: the first and the second of
         * these NAMES; F: a NAME that is no variable; *: any number of E.
         */
        private static String shapeOf(int kind) {
            switch (kind) {
                case 10: return "EEE";
                case 11: return "XEe";
                case 12: return "EE(XYe)";
                case 14:
                case 15:
                case 23: return "F*";
                case 16:
                case 17: return "C";
                case 18: return "EXc";
                case 19: return "E";
                case 20: return "ECC";
                case 21: return "XEc";
                case 22: return "EC(XYc)";
                default: return "EE";
            }
        }

        private boolean takesStep() {
            String shape = shapeOf(nodes.numberAt(open, KIND));
            int step = nodes.numberAt(open, STEP);
            wanted = step >= 0 && step < shape.length() ? shape.charAt(step) : '.';
            switch (wanted) {
                case 'E':
                case 'e': return beginsE();
                case 'C':
                case 'c': return beginsC();
                case '*': return text.token == Text.CLOSE ? endsNode() : beginsE();
                case 'F': return takesName(0);
                case 'X': return takesVariable(0);
                case 'Y': return takesVariable(1);
                case '(': return passesInside(Text.OPEN);
                case ')': return passesInside(Text.CLOSE);
                default: return text.token == Text.CLOSE && endsNode();
            }
        }

        private void goOn() {
            nodes.setNumber(open, STEP, nodes.numberAt(open, STEP) + 1);
        }

        private boolean passesInside(int token) {
            if (text.token != token) {
                return false;
            }
            goOn();
            return true;
        }

        private boolean takesVariable(int i) {
            boolean twice = i == 1 && text.name == nodes.nameAt(open, 0);
            boolean room = nodes.numberAt(open, VARIABLES) + i < MOST_VARIABLES;
            return room && !twice && takesName(i);
        }

        private boolean takesName(int i) {
            if (!isFreeName()) {
                return false;
            }
            setNodeName(open, i);
            goOn();
            return true;
        }

        private void setNodeName(int k, int i) {
            nodes.setName(k, i, text.name);
            nodes.setNumber(k, NAME_PLACE + i, text.place);
        }

        private boolean beginsE() {
            if (text.token == Text.OPEN) {
                open = addNode(NONE);
                stage = AT_HEAD_OF_E;
                return true;
            }
            int kind = kindOfLeaf();
            if (kind == NONE) {
                return false;
            }
            int k = addNode(kind);
            nodes.setNumber(k, SIZE, 1);
            if (kind == KIND_NUMBER) {
                nodes.setNumber(k, VALUE, text.value);
            } else if (kind == KIND_VARIABLE) {
                setNodeName(k, 0);
            }
            goOutTo(open);
            return true;
        }

        private int kindOfLeaf() {
            if (text.token == Text.NUMBER) {
                return KIND_NUMBER;
            }
            if (isFreeName()) {
                return KIND_VARIABLE;
            }
            return wordHere() == WORD_NIL ? KIND_NIL : NONE;
        }

        private boolean beginsC() {
            if (text.token != Text.OPEN) {
                return false;
            }
            open = addNode(NONE);
            stage = AT_HEAD_OF_C;
            return true;
        }

        /** A new NODE in the open one, at the TOKEN; a list of any number of E stays at its step. */
        private int addNode(int kind) {
            int variables = variablesHere();
            if (open != NONE) {
                nodes.setNumber(open, CHILDREN, nodes.numberAt(open, CHILDREN) + 1);
                if (wanted != '*') {
                    goOn();
                }
            }
            int k = nodes.addRow();
            nodes.setNumber(k, KIND, kind);
            nodes.setNumber(k, CHILDREN, 0);
            nodes.setNumber(k, PLACE, text.place);
            nodes.setNumber(k, PARENT, open);
            nodes.setNumber(k, VARIABLES, variables);
            return k;
        }

        private int variablesHere() {
            if (open == NONE) {
                return definitions.numberAt(latest, PARAMETERS);
            }
            int outside = nodes.numberAt(open, VARIABLES);
            if (wanted != 'e' && wanted != 'c') {
                return outside;
            }
            return outside + (nodes.numberAt(open, SECOND_PLACE) == NONE ? 1 : 2);
        }

        private boolean endsNode() {
            nodes.setNumber(open, SIZE, nodes.size() - open);
            goOutTo(nodes.numberAt(open, PARENT));
            return true;
        }

        private void goOutTo(int parent) {
            open = parent;
            stage = parent == NONE ? AT_DEFINITION_END : IN_NODE;
        }
    }
}
