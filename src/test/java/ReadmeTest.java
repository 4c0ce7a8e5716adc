import java.io.IOException;
import java.lang.reflect.Method;
import java.nio.charset.StandardCharsets;
import java.nio.file.Files;
import java.nio.file.Path;
import java.util.List;
import java.util.Set;
import java.util.TreeSet;
import java.util.regex.Matcher;
import java.util.regex.Pattern;

/** The example of README.md is called line by line, and each answer in it has to be the one that comes. */
public final class ReadmeTest {
    private static final Checks c = new Checks("readme");
    private static final String MADE = "TwoLevelParser x = new TwoLevelParser();";
    private static final Pattern CALL = Pattern.compile("x\\.(\\w+)\\((.*?)\\);(?: *// (true|false|-?\\d+)\\b(.*))?");
    private static final Pattern QUOTED = Pattern.compile(", \"(.*)\"");

    private TwoLevelParser x;
    private int calls = 0;
    private final Set<String> called = new TreeSet<>();

    public static void main(String[] args) throws IOException {
        String readme = Files.readString(Path.of("README.md"), StandardCharsets.UTF_8);
        ReadmeTest test = new ReadmeTest();
        for (String line : example(readme)) {
            test.take(line.strip());
        }
        c.due("calls of the example, at most those promised", test.calls <= Checks.MOST_CALLS, true);
        for (Method method : TwoLevelParser.class.getMethods()) {
            if (method.getDeclaringClass() == TwoLevelParser.class) {
                c.due(method.getName() + " is in the example", test.called.contains(method.getName()), true);
            }
        }
        c.due("README.md tells how to run the tests", readme.contains("```sh\n.ci/run\n```"), true);
        c.end();
    }

    private static List<String> example(String readme) {
        String start = "```java\n";
        int from = readme.indexOf(start);
        int to = from < 0 ? -1 : readme.indexOf("```", from + start.length());
        c.due("README.md has an example", to >= 0, true);
        return to < 0 ? List.of() : readme.substring(from + start.length(), to).lines().toList();
    }

    private void take(String line) {
        Matcher call = CALL.matcher(line);
        if (line.equals(MADE)) {
            x = new TwoLevelParser();
        } else if (call.matches() && x != null) {
            hold(call.group(1), call.group(2), call.group(3), call.group(4));
        } else {
            c.due("a line that can be tested: " + line, line.isEmpty() || line.startsWith("//"), true);
        }
    }

    private void hold(String method, String arguments, String due, String told) {
        long[] given = numbers(arguments);
        calls++;
        called.add(method);
        String got = answer(method, given);
        c.due("x." + method + "(" + arguments + ")", got, due == null ? "" : due);
        Matcher quoted = QUOTED.matcher(told == null ? "" : told);
        if (method.equals("give")) {
            c.due("the text of x.give(" + arguments + ")", text(given), quoted.matches() ? quoted.group(1) : "");
        }
    }

    private static long[] numbers(String arguments) {
        String[] parts = arguments.isEmpty() ? new String[0] : arguments.split(", ");
        long[] numbers = new long[2];
        for (int i = 0; i < parts.length; i++) {
            numbers[i] = Long.decode(parts[i].replaceFirst("L$", ""));
        }
        return numbers;
    }

    private String answer(String method, long[] given) {
        int first = (int) given[0];
        int second = (int) given[1];
        switch (method) {
            case "give": return String.valueOf(x.give(given[0], second));
            case "wipe": x.wipe(); return "";
            case "read": return String.valueOf(x.read());
            case "definition": return String.valueOf(x.definition(first, second));
            case "title": return String.valueOf(x.title(first, second));
            case "parameter": return String.valueOf(x.parameter(first, second));
            case "node": return String.valueOf(x.node(first, second));
            case "name": return String.valueOf(x.name(first, second));
            case "number": return String.valueOf(x.number(first));
            case "look": return String.valueOf(x.look(first));
            default: return "no such call";
        }
    }

    /** The bytes of a give as text: n of them, the highest first. */
    private static String text(long[] given) {
        StringBuilder text = new StringBuilder();
        for (int left = (int) given[1] - 1; left >= 0; left--) {
            text.append((char) (given[0] >>> 8 * left & 255));
        }
        return text.toString();
    }
}
