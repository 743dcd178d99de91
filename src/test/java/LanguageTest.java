import java.io.IOException;
import java.lang.reflect.Executable;
import java.lang.reflect.Field;
import java.lang.reflect.Modifier;
import java.nio.file.Files;
import java.nio.file.Path;
import java.util.ArrayDeque;
import java.util.ArrayList;
import java.util.Arrays;
import java.util.Deque;
import java.util.List;
import java.util.Set;
import java.util.regex.Matcher;
import java.util.regex.Pattern;
import java.util.stream.Collectors;
import java.util.stream.Stream;

/**
 * Those rules of LANGUAGE.md that can be seen from the file's words or from its classes. The class
 * uses no library and catches nothing: there the test asks for more than the rules do.
 */
public final class LanguageTest {
    private static final Check CHECK = new Check("LanguageTest");
    private static final Path SOURCES = Path.of("src", "main", "java");
    private static final Set<String> THROWN = Set.of("IllegalStateException",
        "IllegalArgumentException", "IndexOutOfBoundsException", "ArithmeticException",
        "UnsupportedOperationException", "NoSuchElementException", "RuntimeException");
    private static final Set<String> CONSTANT_TYPES = Set.of("int", "long", "boolean", "char",
        "String", "int[]", "long[]", "char[]", "byte[]");

    public static void main(String[] args) throws IOException {
        String text = Files.readString(SOURCES.resolve("CycleKernel.java"));
        String code = withoutTexts(text);
        oneFile();
        CHECK.due("rule 3: characters above 255", text.chars().filter(c -> c > 255).count(), 0);
        words(code);
        exceptions(text, code);
        lengths(code);
        classes();
        CHECK.close();
    }

    private static void oneFile() throws IOException {
        try (Stream<Path> files = Files.walk(SOURCES)) {
            CHECK.due("the files", files.filter(Files::isRegularFile)
                .map(Path::toString).collect(Collectors.joining(" ")),
                SOURCES.resolve("CycleKernel.java").toString());
        }
    }

    /** What stands in comments and texts is no code; lines stay lines, because they are counted. */
    private static String withoutTexts(String text) {
        return text.replaceAll("\"[^\"\n]*\"", "\"\"").replaceAll("//[^\n]*", "")
            .replaceAll("(?m)^ */?\\*.*$", "");
    }

    private static void words(String code) {
        for (String word : new String[] {"package", "import", "finally", "synchronized", "assert",
            "protected", "volatile", "native", "equals", "hashCode", "toString", "getMessage",
            "Object", "System", "Thread", "Random"}) {
            CHECK.due("the word " + word, count("\\b" + word + "\\b", code), 0);
        }
        CHECK.due("rule 2: lambdas and method references", count("->|::", code), 0);
        CHECK.due("rule 5: static blocks", count("static\\s*\\{", code), 0);
        CHECK.due("rule 10: texts joined by +", count("\"\\s*\\+|\\+\\s*\"", code), 0);
        CHECK.due("rule 3: arrays of three dimensions", count("\\[\\]\\s*\\[\\]\\s*\\[", code), 0);
    }

    private static int count(String pattern, String code) {
        return (int) Pattern.compile(pattern).matcher(code).results().count();
    }

    private static void exceptions(String text, String code) {
        int plain = 0;
        Matcher m = Pattern.compile("throw new (\\w+)\\((\"[^\"\n]*\")?\\);").matcher(text);
        while (m.find()) {
            plain++;
            CHECK.due("rule 6: may throw " + m.group(1), THROWN.contains(m.group(1)) ? 1 : 0, 1);
        }
        CHECK.due("rule 6: throws of a new exception with a written text or none",
            plain, count("\\bthrow\\b", code));
        CHECK.due("no answer comes from what is caught", count("\\bcatch\\b", code), 0);
    }

    /** Every block but a class is short, and so a method is. */
    private static void lengths(String code) {
        String[] lines = code.split("\n");
        Deque<Integer> open = new ArrayDeque<>();
        for (int i = 0; i < lines.length; i++) {
            for (char c : lines[i].toCharArray()) {
                if (c == '{') {
                    open.push(i);
                } else if (c == '}') {
                    int from = open.pop();
                    boolean fits = lines[from].contains(" class ") || i - from <= 60;
                    CHECK.due("rule 11: a short method:" + lines[from], fits ? 1 : 0, 1);
                }
            }
        }
    }

    private static void classes() {
        List<Class<?>> all = new ArrayList<>(List.of(CycleKernel.class));
        all.addAll(Arrays.asList(CycleKernel.class.getDeclaredClasses()));
        CHECK.due("rule 11: at most twelve classes", all.size() <= 12 ? 1 : 0, 1);
        for (Class<?> one : all) {
            fields(one);
            Stream<Executable> made = Stream.concat(Arrays.stream(one.getDeclaredMethods()),
                Arrays.stream(one.getDeclaredConstructors()));
            made.forEach(e -> CHECK.due("rule 11: at most seven parameters of " + e,
                e.getParameterCount() <= 7 ? 1 : 0, 1));
        }
    }

    private static void fields(Class<?> one) {
        int own = 0;
        for (Field f : one.getDeclaredFields()) {
            if (Modifier.isStatic(f.getModifiers())) {
                CHECK.due("rule 5: final " + f, Modifier.isFinal(f.getModifiers()) ? 1 : 0, 1);
                CHECK.due("rule 5: the type of " + f,
                    CONSTANT_TYPES.contains(f.getType().getSimpleName()) ? 1 : 0, 1);
            } else {
                own++;
            }
        }
        CHECK.due("rule 11: at most twenty fields of " + one, own <= 20 ? 1 : 0, 1);
    }
}
