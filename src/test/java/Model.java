import java.math.BigInteger;
import java.util.ArrayList;
import java.util.HashSet;
import java.util.List;
import java.util.Set;

/**
 * The document read a second time, in the plainest form: by recursion and with the Java library.
 * It serves to hold the class against it; it shares no code with the class.
 */
final class Model {
    static final class Fault extends Exception {
        private static final long serialVersionUID = 1L;
        final int kind;
        final int place;

        Fault(int kind, int place) {
            this.kind = kind;
            this.place = place;
        }
    }

    static final class Definition {
        boolean chg;
        int type;
        int first;
        int place;
        String title;
        final List<String> names = new ArrayList<>();
        final List<Integer> types = new ArrayList<>();
    }

    static final class Node {
        int kind = -1;
        int children = 0;
        int size = 0;
        int place;
        int parent;
        int variables;
        int value = 0;
        final List<String> names = new ArrayList<>();
        final List<Integer> places = new ArrayList<>();
    }

    private static final List<String> TYPES = List.of("int", "list", "imod", "lmod");
    private static final List<String> HEADS_OF_E = List.of("", "", "", "add", "sub", "mul", "div", "rem", "less", "same",
        "if", "let", "case", "cons", "call", "memo", "imod", "lmod");
    private static final List<String> HEADS_OF_C = List.of("read", "write", "if", "let", "case", "jump");
    static final Set<String> WORDS = new HashSet<>();

    static {
        WORDS.addAll(List.of("fun", "chg", "int", "list", "nil"));
        WORDS.addAll(HEADS_OF_E.subList(3, HEADS_OF_E.size()));
        WORDS.addAll(HEADS_OF_C);
    }

    final List<Definition> definitions = new ArrayList<>();
    final List<Node> nodes = new ArrayList<>();
    int fault = 0;
    int faultPlace = -1;

    private final String text;
    private int at = 0;
    private String token = "";
    private int place = 0;

    Model(String text) {
        this.text = text;
        try {
            next();
            while (!token.isEmpty()) {
                definition();
            }
        } catch (Fault found) {
            fault = found.kind;
            faultPlace = found.place;
            definitions.clear();
            nodes.clear();
        }
    }

    /** The next TOKEN, "" at the end. Fault 1 is found here, before anybody asks for fault 2. */
    private void next() throws Fault {
        while (at < text.length() && " \n".indexOf(text.charAt(at)) >= 0) {
            at++;
        }
        place = at;
        if (at == text.length()) {
            token = "";
            return;
        }
        int end = at;
        while (end < text.length() && String.valueOf(text.charAt(end)).matches("[a-z0-9-]")) {
            end++;
        }
        token = text.substring(at, Math.max(end, at + 1));
        at += token.length();
        boolean right = token.equals("(") || token.equals(")") || token.matches("[a-z]{1,12}") || isNumber(token);
        if (!right) {
            throw new Fault(1, place);
        }
    }

    private static boolean isNumber(String token) {
        return token.matches("-?[0-9]+") && new BigInteger(token).bitLength() < 32;
    }

    private Fault wrong() {
        return token.isEmpty() ? new Fault(3, text.length()) : new Fault(2, place);
    }

    private void need(boolean right) throws Fault {
        if (!right) {
            throw wrong();
        }
    }

    private void pass(String bracket) throws Fault {
        need(token.equals(bracket));
        next();
    }

    private boolean isFree() {
        return token.matches("[a-z]+") && !WORDS.contains(token);
    }

    private void definition() throws Fault {
        need(definitions.size() < 64);
        pass("(");
        Definition d = new Definition();
        need(token.equals("fun") || token.equals("chg"));
        d.chg = token.equals("chg");
        next();
        need(isFree());
        for (Definition other : definitions) {
            need(!other.title.equals(token));
        }
        d.title = token;
        d.place = place;
        definitions.add(d);
        next();
        pass("(");
        while (!token.equals(")")) {
            need(d.names.size() < 8);
            pass("(");
            need(isFree() && !d.names.contains(token));
            d.names.add(token);
            next();
            need(TYPES.contains(token));
            d.types.add(TYPES.indexOf(token));
            next();
            pass(")");
        }
        pass(")");
        need(TYPES.contains(token) && !(d.chg && token.endsWith("mod")));
        d.type = TYPES.indexOf(token);
        next();
        d.first = nodes.size();
        one(d.chg, -1, d.names.size());
        pass(")");
    }

    private void one(boolean change, int parent, int variables) throws Fault {
        boolean leaf = !change && (isNumber(token) || isFree() || token.equals("nil"));
        need(token.equals("(") || leaf);
        Node node = new Node();
        int k = nodes.size();
        nodes.add(node);
        node.place = place;
        node.parent = parent;
        node.variables = variables;
        if (parent >= 0) {
            nodes.get(parent).children++;
        }
        if (leaf) {
            leaf(node);
        } else {
            next();
            List<String> heads = change ? HEADS_OF_C : HEADS_OF_E;
            need(!token.isEmpty() && heads.contains(token));
            node.kind = heads.indexOf(token) + (change ? 18 : 0);
            String head = token;
            next();
            inside(head, change, node, k);
            pass(")");
        }
        node.size = nodes.size() - k;
    }

    private void leaf(Node node) throws Fault {
        if (isNumber(token)) {
            node.kind = 0;
            node.value = new BigInteger(token).intValueExact();
            next();
        } else if (token.equals("nil")) {
            node.kind = 2;
            next();
        } else {
            node.kind = 1;
            name(node);
        }
    }

    private void name(Node node) throws Fault {
        need(isFree());
        node.names.add(token);
        node.places.add(place);
        next();
    }

    private void variable(Node node) throws Fault {
        need(token.isEmpty() || node.variables + node.names.size() + 1 <= 24);
        need(!node.names.contains(token));
        name(node);
    }

    private void inside(String head, boolean change, Node node, int k) throws Fault {
        int v = node.variables;
        switch (head) {
            case "if":
                one(false, k, v);
                one(change, k, v);
                one(change, k, v);
                break;
            case "let":
                variable(node);
                one(false, k, v);
                one(change, k, v + 1);
                break;
            case "case":
                one(false, k, v);
                one(change, k, v);
                pass("(");
                variable(node);
                variable(node);
                one(change, k, v + 2);
                pass(")");
                break;
            case "call":
            case "memo":
            case "jump":
                name(node);
                while (!token.equals(")")) {
                    one(false, k, v);
                }
                break;
            case "imod":
            case "lmod":
                one(true, k, v);
                break;
            case "read":
                one(false, k, v);
                variable(node);
                one(true, k, v + 1);
                break;
            case "write":
                one(false, k, v);
                break;
            default:
                one(false, k, v);
                one(false, k, v);
        }
    }
}
