import java.io.IOException;
import java.lang.reflect.Field;
import java.lang.reflect.Method;
import java.lang.reflect.Modifier;
import java.nio.file.Files;
import java.nio.file.Path;
import java.util.ArrayList;
import java.util.List;
import java.util.Set;
import java.util.TreeSet;
import java.util.regex.Matcher;
import java.util.regex.Pattern;

/** Those rules of LANGUAGE.md that the program's text and its compiled members alone can show. */
public final class LanguageTest {
    private static final Path PROGRAM = Path.of("src/main/java/CodeYard.java");
    /** What rules 2, 4, 6, 12 and 13 leave out, or what this program does without. */
    private static final String[] UNUSED = {
        "\\bpackage\\b", "\\bimport\\b", "\\bjava\\.", "->", "::", "\\btry\\b", "\\bcatch\\b", "\\bfinally\\b",
        "\\bthrow\\b", "\\bthrows\\b", "\\bassert\\b", "\\bsynchronized\\b", "\\binstanceof\\b", "Exact\\b",
        "\\bSystem\\b", "\\bThread\\b", "\\bnative\\b", "\\bfloat\\b", "\\bdouble\\b", "\\bString\\b", "\"",
        "\\bstatic \\{", "\\bequals\\(", "\\bhashCode\\(", "\\btoString\\("
    };

    public static void main(String[] args) throws IOException {
        String text = Files.readString(PROGRAM);
        String code = withoutComments(text);
        for (String word : UNUSED) {
            Check.that("without " + word, !Pattern.compile(word).matcher(code).find());
        }
        List<Class<?>> classes = classes();
        membersAreHidden(classes);
        sizes(classes);
        methodsAreShort(code);
        objectsAreMadeInConstructors(code);
        Check.finish();
    }

    private static String withoutComments(String text) {
        return text.replaceAll("(?s)/\\*.*?\\*/", "").replaceAll("//[^\n]*", "");
    }

    private static List<Class<?>> classes() {
        List<Class<?>> all = new ArrayList<>();
        all.add(CodeYard.class);
        for (Class<?> inside : CodeYard.class.getDeclaredClasses()) {
            all.add(inside);
            Check.that(inside + " is private", Modifier.isPrivate(inside.getModifiers()));
            Check.that(inside + " is static", Modifier.isStatic(inside.getModifiers()));
        }
        return all;
    }

    /** Rules 1 and 5. */
    private static void membersAreHidden(List<Class<?>> classes) {
        Set<String> face = new TreeSet<>();
        for (Method method : CodeYard.class.getMethods()) {
            face.add(method.getName());
        }
        for (Class<?> type : classes) {
            for (Method method : type.getDeclaredMethods()) {
                boolean hidden = Modifier.isPrivate(method.getModifiers());
                boolean ofFace = type == CodeYard.class && Modifier.isPublic(method.getModifiers());
                Check.that(method + " is private or of the face", hidden || ofFace);
                Check.that(method + " has a name of its own", ofFace || !face.contains(method.getName()));
            }
            for (Field field : type.getDeclaredFields()) {
                int how = field.getModifiers();
                Check.that(field + " is final if static", !Modifier.isStatic(how) || Modifier.isFinal(how));
                Check.that(field + " is private", Modifier.isPrivate(how) || field.getName().equals("NONE"));
            }
        }
    }

    /** Rule 11. */
    private static void sizes(List<Class<?>> classes) {
        Check.that("at most twelve classes", classes.size() <= 12);
        for (Class<?> type : classes) {
            int fields = 0;
            for (Field field : type.getDeclaredFields()) {
                fields += Modifier.isStatic(field.getModifiers()) ? 0 : 1;
            }
            Check.that(type + " has at most twenty fields", fields <= 20);
            for (Method method : type.getDeclaredMethods()) {
                Check.that(method + " takes at most seven", method.getParameterCount() <= 7);
            }
        }
    }

    /** Rule 11: a method begins and ends at the same depth of indentation. */
    private static void methodsAreShort(String code) {
        Pattern method = Pattern.compile("\n( +)(?:public|private) [^;={}]*\\([^;={}]*\\) \\{\n");
        Matcher found = method.matcher(code);
        int methods = 0;
        while (found.find()) {
            int end = code.indexOf("\n" + found.group(1) + "}\n", found.end() - 1);
            long lines = code.substring(found.start(), Math.max(end, found.start())).lines().count();
            Check.that(found.group().trim() + " ends", end > 0);
            Check.that(found.group().trim() + " has at most sixty lines", lines <= 60);
            methods++;
        }
        Check.that("methods are found: " + methods, methods > 40);
    }

    /** What a run of calls makes does not grow with the calls. */
    private static void objectsAreMadeInConstructors(String code) {
        String[] lines = code.split("\n");
        String opener = "";
        int made = 0;
        for (String line : lines) {
            if (line.matches(" +(public|private) [^;=]*\\(.*\\) \\{")) {
                opener = line.trim();
            }
            if (line.matches(".*\\bnew\\b.*")) {
                made++;
                Check.that("made in a constructor: " + line.trim(),
                    opener.matches("(public|private) [A-Z]\\w*\\(.*"));
            }
        }
        Check.that("makings are found: " + made, made > 5);
    }
}
