import java.io.IOException;
import java.nio.file.Files;
import java.nio.file.Path;
import java.util.ArrayList;
import java.util.List;
import java.util.Set;
import java.util.TreeSet;
import java.util.regex.Matcher;
import java.util.regex.Pattern;
import java.util.stream.Collectors;
import java.util.stream.Stream;

/**
 * README.md's examples with the answers that it gives for them, and what it tells of the tests. The
 * lines of each example here are compared with README.md's own, so that neither can change alone.
 */
public final class ReadmeTest {
    private static final Check CHECK = new Check("ReadmeTest");
    private static final Path README = Path.of("README.md");
    private static final Path SCRIPT = Path.of(".ci", "run");
    private static final Path TESTS = Path.of("src", "test", "java");
    private static final Pattern MADE = Pattern.compile("int (\\w+) = .*;");

    public static void main(String[] args) throws IOException {
        firstEvent();
        severalDrivers();
        modes();
        question();
        refusedCalls();
        sameLines();
        sameTests();
        sameCommands();
        CHECK.close();
    }

    // example
    private static void firstEvent() {
        CycleKernel kernel = new CycleKernel(1000);
        int clock = kernel.signal(CycleKernel.LOGIC, 1);
        due(0, clock);
        int p = kernel.process();
        due(0, p);
        kernel.drive(p, clock);
        kernel.first(clock, 0, 2);
        kernel.start();
        due(CycleKernel.RUNS, kernel.state(p));

        kernel.wave(5);
        kernel.put(0, 3);
        due(0, kernel.assign(p, clock, 0, 1, 0, 0));
        kernel.on(clock);
        kernel.suspend(p, false, CycleKernel.NONE);
        due(5, kernel.next());

        due(CycleKernel.TIME, kernel.cycle());
        due(5, kernel.now());
        due(3, kernel.value(clock, 0, false));
        due(2, kernel.value(clock, 0, true));
        due(3, kernel.marks(clock));
        due(clock, kernel.event(0));
        due(p, kernel.which(CycleKernel.RUNS, 0));
    }

    // example
    private static void severalDrivers() {
        CycleKernel kernel = new CycleKernel(1);
        int bus = kernel.signal(CycleKernel.ROW, 4);
        due(0, bus);
        int left = kernel.process();
        due(0, left);
        int right = kernel.process();
        due(1, right);
        kernel.drive(left, bus);
        kernel.drive(right, bus);
        kernel.first(bus, 2, 4);
        kernel.first(bus, 3, 4);
        kernel.start();

        kernel.wave(0);
        kernel.put(0, 3);
        kernel.put(1, 2);
        due(0, kernel.assign(left, bus, 2, 2, 1, 0));
        kernel.suspend(left, false, 0);
        kernel.wave(0);
        kernel.put(0, 3);
        due(0, kernel.assign(right, bus, 3, 1, 1, 0));
        kernel.end(right);

        due(CycleKernel.STEP, kernel.cycle());
        due(0, kernel.now());
        due(1, kernel.step());
        due(3, kernel.value(bus, 2, false));
        due(1, kernel.value(bus, 3, false));
        due(4, kernel.value(bus, 3, true));
        due(CycleKernel.RUNS, kernel.state(left));
        due(CycleKernel.ENDED, kernel.state(right));

        kernel.suspend(left, false, 0);
        due(CycleKernel.LIMIT, kernel.cycle());
        due(1, kernel.step());
    }

    // example
    private static void modes() {
        CycleKernel kernel = new CycleKernel(1000);
        int count = kernel.signal(CycleKernel.NUMBER, 1);
        due(0, count);
        int p = kernel.process();
        due(0, p);
        kernel.drive(p, count);
        kernel.start();

        kernel.wave(2);
        kernel.put(0, 70);
        kernel.wave(6);
        kernel.put(0, 90);
        due(0, kernel.assign(p, count, 0, 1, 1, 0));
        due(2, kernel.pending(p, count, 0));
        due(70, kernel.projected(p, count, 0, 5));

        kernel.wave(8);
        kernel.put(0, 90);
        due(0, kernel.assign(p, count, 0, 1, 2, 3));
        due(3, kernel.pending(p, count, 0));

        kernel.wave(8);
        kernel.put(0, 50);
        due(2, kernel.assign(p, count, 0, 1, 2, 3));
        due(2, kernel.pending(p, count, 0));

        kernel.wave(9);
        kernel.put(0, 50);
        due(1, kernel.assign(p, count, 0, 1, 0, 0));
        due(2, kernel.pending(p, count, 0));
    }

    // example
    private static void question() {
        CycleKernel kernel = new CycleKernel(1000);
        int count = kernel.signal(CycleKernel.NUMBER, 1);
        due(0, count);
        int writer = kernel.process();
        due(0, writer);
        int reader = kernel.process();
        due(1, reader);
        kernel.drive(writer, count);
        kernel.start();

        kernel.wave(1);
        kernel.put(0, 41);
        kernel.wave(2);
        kernel.put(0, 42);
        due(0, kernel.assign(writer, count, 0, 1, 1, 0));
        kernel.end(writer);
        kernel.on(count);
        kernel.suspend(reader, true, 10);

        due(CycleKernel.TIME, kernel.cycle());
        due(reader, kernel.which(CycleKernel.ASKED, 0));
        kernel.answer(reader, kernel.value(count, 0, false) == 42);
        due(CycleKernel.WAITS, kernel.state(reader));

        due(CycleKernel.TIME, kernel.cycle());
        due(2, kernel.now());
        kernel.answer(reader, kernel.value(count, 0, false) == 42);
        due(CycleKernel.RUNS, kernel.state(reader));

        kernel.end(reader);
        due(CycleKernel.QUIET, kernel.cycle());
        due(CycleKernel.NONE, kernel.next());
    }

    // example
    private static void refusedCalls() {
        CycleKernel kernel = new CycleKernel(1000);
        int clock = kernel.signal(CycleKernel.LOGIC, 1);
        due(0, clock);
        int p = kernel.process();
        due(0, p);
        refused(IllegalArgumentException.class, () -> kernel.signal(CycleKernel.ROW, 65));
        refused(IllegalStateException.class, () -> kernel.cycle());
        kernel.start();
        refused(IllegalStateException.class, () -> kernel.drive(p, clock));
        refused(IllegalStateException.class, () -> kernel.cycle());
        refused(IndexOutOfBoundsException.class, () -> kernel.value(clock, 1, false));
        refused(IllegalArgumentException.class, () -> kernel.wave(-1));
        refused(IllegalStateException.class, () -> kernel.put(0, 3));
        kernel.wave(5);
        kernel.put(0, 3);
        refused(IllegalStateException.class, () -> kernel.assign(p, clock, 0, 1, 0, 0));
        kernel.drop();
        refused(IllegalStateException.class, () -> kernel.answer(p, true));
    }

    private static void due(long want, long got) {
        CHECK.due(place(), got, want);
    }

    private static void refused(Class<?> want, Runnable call) {
        CHECK.isThrown(place(), want, call);
    }

    /** The example and line whose answer is asked for: the calls have no text of their own here. */
    private static String place() {
        StackTraceElement caller = new Throwable().getStackTrace()[2];
        return caller.getMethodName() + "(), line " + caller.getLineNumber();
    }

    private static void sameLines() throws IOException {
        List<String> shown = blocks(Files.readAllLines(README), "```java", "```");
        List<String> made = blocks(Files.readAllLines(TESTS.resolve("ReadmeTest.java")),
            "    // example", "    }");
        CHECK.due("the number of examples", made.size(), shown.size());
        for (int i = 0; i < Math.min(made.size(), shown.size()); i++) {
            String lines = made.get(i).lines().skip(1).map(String::strip)
                .filter(line -> !line.isEmpty()).collect(Collectors.joining("\n"));
            String want = shown.get(i).lines().flatMap(ReadmeTest::asTest)
                .collect(Collectors.joining("\n"));
            CHECK.same("example " + i, lines, want);
        }
    }

    private static List<String> blocks(List<String> lines, String begin, String end) {
        List<String> found = new ArrayList<>();
        StringBuilder block = null;
        for (String line : lines) {
            if (block == null && line.equals(begin)) {
                block = new StringBuilder();
            } else if (block != null && line.equals(end)) {
                found.add(block.toString());
                block = null;
            } else if (block != null) {
                block.append(line).append('\n');
            }
        }
        return found;
    }

    /** A line of README.md's example as a test has it: with what its comment says is due. */
    private static Stream<String> asTest(String line) {
        int comment = line.indexOf("//");
        String code = (comment < 0 ? line : line.substring(0, comment)).strip();
        String words = comment < 0 ? "" : line.substring(comment + 2).strip();
        if (code.isEmpty()) {
            return Stream.empty();
        }
        if (!words.startsWith("->")) {
            return Stream.of(code);
        }
        String answer = words.substring(2).split(",")[0].strip();
        Matcher made = MADE.matcher(code);
        if (made.matches()) {
            return Stream.of(code, "due(" + answer + ", " + made.group(1) + ");");
        }
        String call = code.substring(0, code.length() - 1);
        if (answer.startsWith("throws ")) {
            return Stream.of("refused(" + answer.substring(7) + ".class, () -> " + call + ");");
        }
        return Stream.of("due(" + answer + ", " + call + ");");
    }

    private static void sameTests() throws IOException {
        Set<String> there = new TreeSet<>();
        try (Stream<Path> files = Files.list(TESTS)) {
            files.map(file -> file.getFileName().toString())
                .filter(name -> name.endsWith("Test.java"))
                .forEach(name -> there.add(name.replace(".java", "")));
        }
        Set<String> told = new TreeSet<>();
        Matcher row = Pattern.compile("(?m)^\\| `(\\w+)` \\|").matcher(Files.readString(README));
        while (row.find()) {
            told.add(row.group(1));
        }
        CHECK.due("the tests that README.md tells of", told.toString(), there.toString());
    }

    /** Which commands README.md names between backquotes, and which the script calls. */
    private static void sameCommands() throws IOException {
        String command = "java(?:c(?: --?\\w[\\w:]*(?: 17)?)+| -ea)";
        Set<String> told = new TreeSet<>();
        Matcher named = Pattern.compile("`(" + command + ")`").matcher(Files.readString(README));
        while (named.find()) {
            told.add(named.group(1));
        }
        Set<String> called = new TreeSet<>();
        Matcher call = Pattern.compile("\\b(" + command + ")(?= -d | -cp )")
            .matcher(Files.readString(SCRIPT));
        while (call.find()) {
            called.add(call.group(1));
        }
        CHECK.due("the commands that README.md names", told.toString(), called.toString());
    }
}
