import java.lang.reflect.Constructor;
import java.lang.reflect.Field;
import java.lang.reflect.Method;
import java.lang.reflect.Modifier;
import java.util.Arrays;
import java.util.Set;
import java.util.TreeSet;
import java.util.stream.Collectors;

/** The public face: the document's constants, constructor and methods, and no others. */
public final class FaceTest {
    private static final Check CHECK = new Check("FaceTest");

    private static final String[] METHODS = {
        "int signal(int,int) throws IllegalArgumentException,IllegalStateException",
        "int process() throws IllegalStateException",
        "void drive(int,int) throws IndexOutOfBoundsException,IllegalStateException",
        "void first(int,int,int) throws IndexOutOfBoundsException,IllegalArgumentException,"
            + "IllegalStateException",
        "void start() throws IllegalStateException",
        "void wave(long) throws IllegalArgumentException,IllegalStateException",
        "void put(int,int) throws IndexOutOfBoundsException,IllegalStateException",
        "void drop() throws ",
        "int assign(int,int,int,int,int,long) throws IndexOutOfBoundsException,"
            + "IllegalStateException,IllegalArgumentException",
        "void on(int) throws IndexOutOfBoundsException",
        "void suspend(int,boolean,long) throws IndexOutOfBoundsException,"
            + "IllegalArgumentException,IllegalStateException",
        "void end(int) throws IndexOutOfBoundsException,IllegalStateException",
        "void answer(int,boolean) throws IndexOutOfBoundsException,IllegalStateException",
        "int cycle() throws IllegalStateException",
        "int state(int) throws IndexOutOfBoundsException",
        "int which(int,int) throws IllegalArgumentException",
        "int value(int,int,boolean) throws IndexOutOfBoundsException",
        "int marks(int) throws IndexOutOfBoundsException",
        "int event(int) throws ",
        "long now() throws ",
        "int step() throws ",
        "long next() throws ",
        "int pending(int,int,int) throws IndexOutOfBoundsException",
        "int projected(int,int,int,long) throws IndexOutOfBoundsException,"
            + "IllegalArgumentException",
    };

    private static final String[] CONSTANTS = {"NONE -1", "LOGIC 0", "ROW 1", "NUMBER 2",
        "QUIET 0", "TIME 1", "STEP 2", "LIMIT 3", "RUNS 0", "WAITS 1", "ASKED 2", "ENDED 3"};

    public static void main(String[] args) throws IllegalAccessException {
        Class<?> face = CycleKernel.class;
        int modifiers = face.getModifiers();
        CHECK.due("public", Modifier.isPublic(modifiers) ? 1 : 0, 1);
        CHECK.due("final", Modifier.isFinal(modifiers) ? 1 : 0, 1);
        constructors(face);
        methods(face);
        constants(face);
        classesInside(face);
        CHECK.close();
    }

    private static void constructors(Class<?> face) {
        Constructor<?>[] made = face.getDeclaredConstructors();
        CHECK.due("constructors", made.length, 1);
        CHECK.due("constructor", made[0].toString(), "public CycleKernel(int)");
    }

    private static void methods(Class<?> face) {
        Set<String> open = new TreeSet<>();
        Set<String> names = new TreeSet<>();
        for (Method m : face.getDeclaredMethods()) {
            if (!Modifier.isPrivate(m.getModifiers())) {
                open.add(written(m));
                names.add(m.getName());
                CHECK.due(m.getName() + " is public", m.getModifiers(), Modifier.PUBLIC);
            }
        }
        CHECK.due("methods", open.toString(), new TreeSet<>(Arrays.asList(METHODS)).toString());
        for (Method m : face.getDeclaredMethods()) {
            if (Modifier.isPrivate(m.getModifiers())) {
                CHECK.due("a private " + m.getName(), names.contains(m.getName()) ? 1 : 0, 0);
            }
        }
    }

    private static String written(Method m) {
        return m.getReturnType() + " " + m.getName() + "(" + simple(m.getParameterTypes())
            + ") throws " + simple(m.getExceptionTypes());
    }

    private static String simple(Class<?>[] types) {
        return Arrays.stream(types).map(Class::getSimpleName).collect(Collectors.joining(","));
    }

    private static void constants(Class<?> face) throws IllegalAccessException {
        Set<String> open = new TreeSet<>();
        int wanted = Modifier.PUBLIC | Modifier.STATIC | Modifier.FINAL;
        for (Field f : face.getDeclaredFields()) {
            if (!Modifier.isPrivate(f.getModifiers())) {
                CHECK.due(f.getName() + "'s modifiers", f.getModifiers(), wanted);
                CHECK.due(f.getName() + "'s type", f.getType().getName(), "int");
                open.add(f.getName() + " " + f.getInt(null));
            } else if (Modifier.isStatic(f.getModifiers())) {
                CHECK.due(f.getName() + " is final", f.getModifiers() & Modifier.FINAL,
                    Modifier.FINAL);
            }
        }
        CHECK.due("constants", open.toString(),
            new TreeSet<>(Arrays.asList(CONSTANTS)).toString());
    }

    private static void classesInside(Class<?> face) {
        for (Class<?> inside : face.getDeclaredClasses()) {
            int modifiers = inside.getModifiers();
            CHECK.due(inside + " is static", modifiers & Modifier.STATIC, Modifier.STATIC);
            CHECK.due(inside + " is not open",
                modifiers & (Modifier.PUBLIC | Modifier.PROTECTED), 0);
        }
    }
}
