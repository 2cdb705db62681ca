import java.io.IOException;
import java.lang.reflect.Method;
import java.lang.reflect.Modifier;
import java.nio.file.DirectoryStream;
import java.nio.file.Files;
import java.nio.file.Path;
import java.util.List;
import java.util.regex.Matcher;
import java.util.regex.Pattern;

/** README.md: its examples answer what they say, and its lists name every call and every test. */
public final class ReadmeTest {
    private static final Path README = Path.of("README.md");
    private static final Pattern CALL = Pattern.compile("yard\\.(\\w+)\\(([^)]*)\\);\\s*// (-?\\d+)\\b.*");

    public static void main(String[] args) throws ReflectiveOperationException, IOException {
        List<String> lines = Files.readAllLines(README);
        Check.due("examples", examples(lines), 3);
        everyCallIsListed(lines);
        everyTestIsListed(lines);
        Check.finish();
    }

    private static int examples(List<String> lines) throws ReflectiveOperationException {
        int examples = 0;
        boolean inside = false;
        CodeYard yard = null;
        for (String line : lines) {
            if (line.startsWith("```")) {
                inside = line.equals("```java");
            } else if (inside && line.equals("CodeYard yard = new CodeYard();")) {
                yard = new CodeYard();
                examples++;
            } else if (inside && !line.startsWith("//")) {
                answersAsSaid(yard, line);
            }
        }
        return examples;
    }

    private static void answersAsSaid(CodeYard yard, String line) throws ReflectiveOperationException {
        Matcher call = CALL.matcher(line);
        boolean read = call.matches();
        Check.that("a call with its answer: " + line, read && yard != null);
        if (read && yard != null) {
            Check.due(line, answer(yard, call.group(1), call.group(2).split(", ")), Long.parseLong(call.group(3)));
        }
    }

    private static int answer(CodeYard yard, String name, String[] words) throws ReflectiveOperationException {
        Class<?>[] types = new Class<?>[words.length];
        Object[] values = new Object[words.length];
        for (int i = 0; i < words.length; i++) {
            types[i] = int.class;
            values[i] = Long.decode(words[i]).intValue();
        }
        return (Integer) CodeYard.class.getMethod(name, types).invoke(yard, values);
    }

    private static void everyCallIsListed(List<String> lines) {
        for (Method method : CodeYard.class.getDeclaredMethods()) {
            if (Modifier.isPublic(method.getModifiers())) {
                Check.that(method.getName() + " is listed", isListed(lines, "`" + method.getName() + "("));
            }
        }
    }

    private static void everyTestIsListed(List<String> lines) throws IOException {
        try (DirectoryStream<Path> tests = Files.newDirectoryStream(Path.of("src/test/java"), "*Test.java")) {
            for (Path test : tests) {
                String name = test.getFileName().toString().replace(".java", "");
                Check.that(name + " is listed", isListed(lines, "`" + name + "`"));
            }
        }
    }

    private static boolean isListed(List<String> lines, String name) {
        return lines.stream().anyMatch(line -> line.startsWith("|") && line.contains(name));
    }
}
