import java.lang.reflect.Field;
import java.lang.reflect.Method;
import java.lang.reflect.Modifier;
import java.util.TreeSet;

/** The public face: just the names and types of the document, and nothing else to be seen. */
public final class FaceTest {
    public static void main(String[] args) {
        TreeSet<String> seen = new TreeSet<>();
        for (Method method : CodeYard.class.getDeclaredMethods()) {
            if (!Modifier.isPrivate(method.getModifiers())) {
                seen.add(described(method));
            }
        }
        TreeSet<String> due = new TreeSet<>();
        String[] names = {"feed", "end", "poke", "load", "begin", "go", "state", "stack", "local",
            "cell", "out", "height", "size"};
        int[] parameters = {5, 1, 2, 1, 2, 1, 1, 1, 1, 2, 1, 2, 1};
        for (int i = 0; i < names.length; i++) {
            due.add("public int " + names[i] + " int".repeat(parameters[i]));
        }
        Check.that("the methods are " + due + ", not " + seen, seen.equals(due));
        for (Field field : CodeYard.class.getDeclaredFields()) {
            boolean visible = !Modifier.isPrivate(field.getModifiers());
            Check.that("field " + field.getName(), visible == field.getName().equals("NONE"));
        }
        Check.that("public and final", Modifier.isPublic(CodeYard.class.getModifiers())
            && Modifier.isFinal(CodeYard.class.getModifiers()));
        Check.due("constructors", CodeYard.class.getDeclaredConstructors().length, 1);
        Check.due("NONE", CodeYard.NONE, -1);
        Check.finish();
    }

    private static String described(Method method) {
        StringBuilder text = new StringBuilder(Modifier.toString(method.getModifiers()));
        text.append(' ').append(method.getReturnType()).append(' ').append(method.getName());
        for (Class<?> type : method.getParameterTypes()) {
            text.append(' ').append(type);
        }
        return text.toString();
    }
}
