import java.lang.reflect.Member;
import java.lang.reflect.Modifier;
import java.util.ArrayList;
import java.util.List;
import java.util.Set;
import java.util.TreeSet;

/** The public face is the document's, and no more. */
public final class FaceTest {
    private static final String[] LINES = {
        "public static final int NONE = -1;",
        "public TwoLevelParser();",
        "public boolean give(long v, int n);",
        "public void wipe();",
        "public int read();",
        "public int definition(int d, int w);",
        "public long title(int d, int i);",
        "public int parameter(int d, int i);",
        "public int node(int k, int w);",
        "public long name(int k, int i);",
        "public int number(int k);",
        "public int look(int which);"
    };

    public static void main(String[] args) {
        Checks c = new Checks("face");
        Class<?> face = TwoLevelParser.class;
        Set<String> seen = notPrivate(face);
        Set<String> due = new TreeSet<>();
        for (String line : LINES) {
            c.sentence("all promises", line);
            due.add(asReflected(line));
            c.due(line + " is there", seen.contains(asReflected(line)), true);
        }
        c.due("NONE", TwoLevelParser.NONE, -1);
        c.sentence("all promises", "public final class TwoLevelParser {");
        c.due("the face " + seen + " and no more", seen.equals(due), true);
        c.due("public", Modifier.isPublic(face.getModifiers()), true);
        c.due("final", Modifier.isFinal(face.getModifiers()), true);
        c.due("package", face.getPackageName(), "");
        for (Class<?> inside : face.getDeclaredClasses()) {
            c.due(inside + " is static", Modifier.isStatic(inside.getModifiers()), true);
            c.due(inside + " is not public", Modifier.isPublic(inside.getModifiers()), false);
            c.due(inside + " is not protected", Modifier.isProtected(inside.getModifiers()), false);
        }
        c.end();
    }

    private static Set<String> notPrivate(Class<?> face) {
        List<Member> members = new ArrayList<>(List.of(face.getDeclaredConstructors()));
        members.addAll(List.of(face.getDeclaredMethods()));
        members.addAll(List.of(face.getDeclaredFields()));
        Set<String> seen = new TreeSet<>();
        for (Member member : members) {
            if (!Modifier.isPrivate(member.getModifiers())) {
                seen.add(member.toString());
            }
        }
        return seen;
    }

    /** A line of the document's face as reflection writes it: with the class, without names of parameters. */
    private static String asReflected(String line) {
        if (line.startsWith("public TwoLevelParser(")) {
            return "public TwoLevelParser()";
        }
        String plain = line.replaceAll(" [a-z]+(?=[,)])", "").replace(", ", ",").replaceAll("( = .*)?;$", "");
        return plain.replaceFirst("(\\w+)(\\(.*\\))?$", "TwoLevelParser.$1$2");
    }
}
