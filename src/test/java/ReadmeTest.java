import java.io.IOException;
import java.lang.reflect.InvocationTargetException;
import java.lang.reflect.Method;
import java.lang.reflect.Modifier;
import java.nio.file.Files;
import java.nio.file.Path;
import java.util.List;
import java.util.regex.Matcher;
import java.util.regex.Pattern;
import java.util.stream.Stream;

/** That README.md tells the truth: its example, the calls and the tests that it names. */
public final class ReadmeTest {
    private static final Check CHECK = new Check("readme");
    private static final Pattern CALL = Pattern.compile("sheet\\.(\\w+)\\((.*?)\\);(?: +// (.*))?");
    private static final Pattern TYPED = Pattern.compile("for \\(char c : \"(.*)\"\\.toCharArray\\(\\)\\) sheet\\.type\\(c\\);");
    private static final Path TESTS = Path.of("src/test/java");

    public static void main(String[] args) throws IOException {
        String text = Files.readString(Path.of("README.md"));
        theExampleHolds(text);
        eachCallIsNamed(text);
        eachTestIsNamed(text);
        eachNamedTestIsThere(text);
        CHECK.end();
    }

    private static void theExampleHolds(String text) {
        int start = text.indexOf("```java\n") + "```java\n".length();
        List<String> lines = text.substring(start, text.indexOf("```", start)).lines().toList();
        ModelSheet sheet = new ModelSheet();
        CHECK.same("the first line", "ModelSheet sheet = new ModelSheet();", lines.get(0));
        for (String line : lines.subList(1, lines.size())) {
            if (!line.isBlank() && !line.startsWith("//")) {
                check(sheet, line);
            }
        }
    }

    private static void check(ModelSheet sheet, String line) {
        Matcher typed = TYPED.matcher(line);
        if (typed.matches()) {
            Check.write(sheet, typed.group(1));
            return;
        }
        Matcher call = CALL.matcher(line);
        CHECK.same("a call: " + line, true, call.matches());
        String due = call.group(3) == null ? "" : call.group(3).replaceAll(":.*", "");
        String got = answer(sheet, call.group(1), call.group(2));
        // A call without an answer has a remark of its own there.
        CHECK.same(line, got.isEmpty() ? "" : due, got);
    }

    private static String answer(ModelSheet sheet, String name, String arguments) {
        String[] words = arguments.isEmpty() ? new String[0] : arguments.split(", ");
        Object[] values = new Object[words.length];
        for (int i = 0; i < words.length; i++) {
            boolean flag = words[i].equals("true") || words[i].equals("false");
            values[i] = flag ? (Object) Boolean.valueOf(words[i]) : (Object) Integer.valueOf(words[i]);
        }
        try {
            Object answer = method(name).invoke(sheet, values);
            return answer == null ? "" : String.valueOf(answer);
        } catch (InvocationTargetException e) {
            return "throws " + e.getCause().getClass().getSimpleName();
        } catch (IllegalAccessException e) {
            return "hidden";
        }
    }

    private static Method method(String name) {
        return Stream.of(ModelSheet.class.getDeclaredMethods())
                .filter(m -> Modifier.isPublic(m.getModifiers()) && m.getName().equals(name)).findFirst().orElseThrow();
    }

    private static void eachCallIsNamed(String text) {
        for (Method m : ModelSheet.class.getDeclaredMethods()) {
            if (Modifier.isPublic(m.getModifiers())) {
                boolean named = Pattern.compile("\n\\|.*`" + m.getName() + "\\(.*\\|\n").matcher(text).find();
                CHECK.same(m.getName() + " stands in the table of calls", true, named);
            }
        }
    }

    private static void eachTestIsNamed(String text) throws IOException {
        List<String> names;
        try (Stream<Path> files = Files.list(TESTS)) {
            names = files.map(file -> file.getFileName().toString().replace(".java", ""))
                    .filter(name -> name.endsWith("Test")).toList();
        }
        CHECK.same("there are tests", false, names.isEmpty());
        for (String name : names) {
            String row = name.startsWith("Bounds") ? "| `Bounds...Test` |" : "| `" + name + "` |";
            CHECK.same(name + " stands in the table of tests", true, text.contains(row));
        }
    }

    private static void eachNamedTestIsThere(String text) {
        Matcher named = Pattern.compile("\\| `(\\w+Test)` \\|").matcher(text);
        while (named.find()) {
            CHECK.same(named.group(1) + " is there", true, Files.exists(TESTS.resolve(named.group(1) + ".java")));
        }
    }
}
