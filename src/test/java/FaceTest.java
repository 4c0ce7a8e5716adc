import java.lang.reflect.Constructor;
import java.lang.reflect.Field;
import java.lang.reflect.Method;
import java.lang.reflect.Modifier;
import java.util.Set;
import java.util.TreeSet;

/** The public face is the document's, and no more. */
public final class FaceTest {
    public static void main(String[] args) {
        Checks c = new Checks("face");
        Class<?> face = TwoLevelParser.class;
        c.due("public and final", Modifier.isPublic(face.getModifiers()) && Modifier.isFinal(face.getModifiers()), true);

        Set<String> seen = new TreeSet<>();
        for (Constructor<?> made : face.getDeclaredConstructors()) {
            seen.add(made.toString());
        }
        for (Method method : face.getDeclaredMethods()) {
            if (!Modifier.isPrivate(method.getModifiers())) {
                seen.add(method.toString());
            }
        }
        for (Field field : face.getDeclaredFields()) {
            if (!Modifier.isPrivate(field.getModifiers())) {
                seen.add(field.toString());
            }
        }
        Set<String> due = new TreeSet<>();
        String in = "TwoLevelParser.";
        due.add("public TwoLevelParser()");
        due.add("public static final int " + in + "NONE");
        due.add("public boolean " + in + "give(long,int)");
        due.add("public void " + in + "wipe()");
        due.add("public int " + in + "read()");
        due.add("public int " + in + "definition(int,int)");
        due.add("public long " + in + "title(int,int)");
        due.add("public int " + in + "parameter(int,int)");
        due.add("public int " + in + "node(int,int)");
        due.add("public long " + in + "name(int,int)");
        due.add("public int " + in + "number(int)");
        due.add("public int " + in + "look(int)");
        c.due("the face " + seen, seen.equals(due), true);

        for (Class<?> inside : face.getDeclaredClasses()) {
            c.due(inside + " is static", Modifier.isStatic(inside.getModifiers()), true);
            c.due(inside + " is not public", Modifier.isPublic(inside.getModifiers()), false);
            c.due(inside + " is not protected", Modifier.isProtected(inside.getModifiers()), false);
        }
        c.end();
    }
}
