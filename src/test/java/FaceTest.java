import java.io.IOException;
import java.lang.reflect.Constructor;
import java.lang.reflect.Field;
import java.lang.reflect.Method;
import java.lang.reflect.Modifier;
import java.nio.file.Files;
import java.nio.file.Path;
import java.util.Arrays;
import java.util.Set;
import java.util.TreeSet;
import java.util.stream.Collectors;

/** That the class has the document's face and no other, and keeps to what LANGUAGE.md bounds. */
public final class FaceTest {
    private static final Check CHECK = new Check("face");
    private static final String[] METHODS = {
        "int about(int,int,int) NoSuchElementException,IllegalArgumentException",
        "int at(int,int) NoSuchElementException,IllegalArgumentException",
        "int count(int) IllegalArgumentException",
        "int drop(int,int) NoSuchElementException,IllegalStateException",
        "int dropLayer(boolean) IllegalStateException",
        "int dropRule(int) NoSuchElementException",
        "boolean erase(int) NoSuchElementException",
        "float filled(int) NoSuchElementException",
        "int fuel(int) IllegalArgumentException",
        "int layer() IllegalStateException",
        "int member(int,int,int) NoSuchElementException,IllegalArgumentException,IllegalStateException",
        "int move(int,int,int) NoSuchElementException,IllegalArgumentException",
        "void pattern(int,int,int) NoSuchElementException,IllegalArgumentException",
        "void put(int,int) NoSuchElementException,IllegalArgumentException,IllegalStateException",
        "int redo() IllegalStateException",
        "int rule() IllegalStateException",
        "int shown(int,int) NoSuchElementException,IllegalStateException",
        "int spread(int,int) NoSuchElementException,IllegalArgumentException,IllegalStateException",
        "int state(int) NoSuchElementException,IllegalStateException",
        "int steps() ",
        "boolean type(char) ",
        "int undo() IllegalStateException",
        "int value(int) NoSuchElementException,IllegalStateException",
        "int winner() NoSuchElementException"};

    public static void main(String[] args) throws IOException, IllegalAccessException {
        methodsAreTheDocuments();
        constantsAreTheDocuments();
        allElseIsPrivate();
        classesAreSmall();
        theTextHasNoForbiddenWords();
        CHECK.end();
    }

    private static String names(Class<?>[] types) {
        return Arrays.stream(types).map(Class::getSimpleName).collect(Collectors.joining(","));
    }

    private static void methodsAreTheDocuments() {
        Set<String> found = new TreeSet<>();
        for (Method m : ModelSheet.class.getDeclaredMethods()) {
            if (Modifier.isPublic(m.getModifiers())) {
                found.add(m.getReturnType().getSimpleName() + " " + m.getName() + "("
                        + names(m.getParameterTypes()) + ") " + names(m.getExceptionTypes()));
            }
        }
        CHECK.same("methods", new TreeSet<>(Arrays.asList(METHODS)), found);
        Constructor<?>[] made = ModelSheet.class.getDeclaredConstructors();
        CHECK.same("constructors", 1, made.length);
        CHECK.same("its arguments", 0, made[0].getParameterCount());
        CHECK.same("the constructor is public", true, Modifier.isPublic(made[0].getModifiers()));
        CHECK.same("the class", "public final", Modifier.toString(ModelSheet.class.getModifiers()));
    }

    private static void constantsAreTheDocuments() throws IllegalAccessException {
        Set<String> found = new TreeSet<>();
        for (Field f : ModelSheet.class.getDeclaredFields()) {
            if (Modifier.isPublic(f.getModifiers())) {
                found.add(Modifier.toString(f.getModifiers()) + " " + f.getType() + " " + f.getName() + " " + f.get(null));
            }
        }
        String all = "public static final int ";
        CHECK.same("constants", new TreeSet<>(Set.of(all + "NUMBER 0", all + "EMPTY 1", all + "RING 2",
                all + "OVERFLOW 3", all + "DIVISION 4")), found);
    }

    private static void allElseIsPrivate() {
        Set<String> face = Arrays.stream(ModelSheet.class.getMethods()).filter(m -> m.getDeclaringClass() == ModelSheet.class)
                .map(Method::getName).collect(Collectors.toSet());
        for (Method m : ModelSheet.class.getDeclaredMethods()) {
            boolean known = Modifier.isPublic(m.getModifiers()) || Modifier.isPrivate(m.getModifiers());
            CHECK.same(m.getName() + " is public or private", true, known);
            CHECK.same(m.getName() + " is no private namesake", false,
                    Modifier.isPrivate(m.getModifiers()) && face.contains(m.getName()));
        }
        for (Class<?> inner : ModelSheet.class.getDeclaredClasses()) {
            CHECK.same(inner + " is static", true, Modifier.isStatic(inner.getModifiers()));
            CHECK.same(inner + " is not public", false, Modifier.isPublic(inner.getModifiers()));
            for (Method m : inner.getDeclaredMethods()) {
                CHECK.same(inner + "." + m.getName() + " is no namesake", false, face.contains(m.getName()));
                CHECK.same(m.getName() + " has few parameters", true, m.getParameterCount() <= 7);
            }
        }
    }

    private static void classesAreSmall() {
        CHECK.same("classes", true, ModelSheet.class.getDeclaredClasses().length < 12);
        fieldsAreFew(ModelSheet.class);
        for (Class<?> inner : ModelSheet.class.getDeclaredClasses()) {
            fieldsAreFew(inner);
        }
    }

    private static void fieldsAreFew(Class<?> type) {
        int own = 0;
        for (Field f : type.getDeclaredFields()) {
            own += Modifier.isStatic(f.getModifiers()) ? 0 : 1;
            if (Modifier.isStatic(f.getModifiers())) {
                CHECK.same(f + " is final", true, Modifier.isFinal(f.getModifiers()));
            } else if (type == ModelSheet.class) {
                CHECK.same(f + " is private", true, Modifier.isPrivate(f.getModifiers()));
            }
        }
        CHECK.same(type + " has few fields", true, own <= 20);
    }

    private static void theTextHasNoForbiddenWords() throws IOException {
        String text = Files.readString(Path.of("src/main/java/ModelSheet.java"));
        String code = text.replaceAll("(?s)/\\*.*?\\*/", "").replaceAll("//.*", "").replaceAll("\"[^\"]*\"", "\"\"");
        String[] forbidden = {"->", "::", "@", "finally", "synchronized", "assert", "record", "catch", "try",
            "package", "native", "transient", "volatile", "Object", "Random", "System.in", "System.out",
            "System.nanoTime", "System.currentTimeMillis", "Thread", "Exact", "String.valueOf", "format", "yield"};
        for (String word : forbidden) {
            boolean letters = Character.isLetter(word.charAt(0));
            String pattern = letters ? "(?s).*\\b" + word.replace(".", "\\.") + "\\b.*" : "(?s).*" + word + ".*";
            CHECK.same("the text has " + word, false, code.matches(pattern));
        }
        Set<String> imports = code.lines().filter(line -> line.startsWith("import ")).collect(Collectors.toCollection(TreeSet::new));
        CHECK.same("imports", "[import java.util.Arrays;, import java.util.NoSuchElementException;]", imports);
    }
}
