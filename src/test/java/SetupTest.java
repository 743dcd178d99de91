/** Promises 1 to 6: a new object, signal, process, drive, first, start. */
public final class SetupTest {
    private static final Check CHECK = new Check("SetupTest");

    public static void main(String[] args) {
        newObject();
        limitOfSteps(1, 1);
        limitOfSteps(2, 2);
        limitOfSteps(200, 200);
        limitLargerThanRun(100000);
        limitLargerThanRun(100001);
        limitLargerThanRun(0);
        limitLargerThanRun(-1);
        limitLargerThanRun(Integer.MIN_VALUE);
        limitLargerThanRun(Integer.MAX_VALUE);
        signalClasses();
        signalCount();
        signalElements();
        processCount();
        driveOrdinary();
        driveNumber();
        driveElements();
        driveOrder();
        firstValues();
        firstOrder();
        startOrdinary();
        startValues();
        emptyStart();
        CHECK.close();
    }

    private static void newObject() {
        CycleKernel x = new CycleKernel(5);
        CHECK.due("now()", x.now(), 0);
        CHECK.due("step()", x.step(), 0);
        CHECK.due("next()", x.next(), CycleKernel.NONE);
        CHECK.due("event(0)", x.event(0), CycleKernel.NONE);
        for (int state = 0; state < 4; state++) {
            CHECK.due("which(" + state + ", 0)", x.which(state, 0), CycleKernel.NONE);
        }
        CHECK.isThrown("state(0)", Check.INDEX, () -> x.state(0));
        CHECK.isThrown("marks(0)", Check.INDEX, () -> x.marks(0));
        CHECK.isThrown("cycle()", Check.STATE, x::cycle);
    }

    private static void limitOfSteps(int limit, int steps) {
        CycleKernel x = new CycleKernel(limit);
        int p = x.process();
        x.start();
        x.suspend(p, false, 0);
        for (int i = 1; i <= steps; i++) {
            CHECK.due("limit " + limit + ": cycle()", x.cycle(), CycleKernel.STEP);
            x.suspend(p, false, 0);
        }
        CHECK.due("limit " + limit + ": cycle()", x.cycle(), CycleKernel.LIMIT);
        CHECK.due("limit " + limit + ": step()", x.step(), steps);
    }

    private static void limitLargerThanRun(int limit) {
        CycleKernel x = new CycleKernel(limit);
        int p = x.process();
        x.start();
        x.suspend(p, false, 0);
        for (int i = 0; i < 240; i++) {
            CHECK.due("limit " + limit + ": cycle()", x.cycle(), CycleKernel.STEP);
            x.suspend(p, false, 0);
        }
        CHECK.due("limit " + limit + ": step()", x.step(), 240);
    }

    private static void signalClasses() {
        CycleKernel x = new CycleKernel(1);
        CHECK.due("signal(LOGIC, 1)", x.signal(CycleKernel.LOGIC, 1), 0);
        CHECK.due("signal(ROW, 1)", x.signal(CycleKernel.ROW, 1), 1);
        CHECK.due("signal(ROW, 64)", x.signal(CycleKernel.ROW, 64), 2);
        CHECK.due("signal(NUMBER, 1)", x.signal(CycleKernel.NUMBER, 1), 3);
        int[][] wrong = {{-1, 1}, {3, 1}, {Integer.MIN_VALUE, 1}, {Integer.MAX_VALUE, 1},
            {0, 0}, {0, 2}, {0, -1}, {1, 0}, {1, 65}, {1, -1}, {1, Integer.MAX_VALUE},
            {1, Integer.MIN_VALUE}, {2, 0}, {2, 2}, {2, -1}};
        for (int[] w : wrong) {
            CHECK.isThrown("signal(" + w[0] + ", " + w[1] + ")", Check.ARGUMENT,
                () -> x.signal(w[0], w[1]));
        }
        CHECK.due("a wrong one makes no signal", x.signal(CycleKernel.LOGIC, 1), 4);
        CHECK.due("value of the row's last element", x.value(2, 63, false), 0);
        CHECK.isThrown("value(2, 64)", Check.INDEX, () -> x.value(2, 64, false));
        CHECK.isThrown("value(0, 1)", Check.INDEX, () -> x.value(0, 1, false));
        x.start();
        CHECK.isThrown("behind the start", Check.STATE, () -> x.signal(0, 1));
        CHECK.isThrown("behind the start, a wrong n", Check.ARGUMENT, () -> x.signal(0, 2));
        CHECK.isThrown("behind the start, a wrong class", Check.ARGUMENT, () -> x.signal(3, 1));
        CHECK.isThrown("no signal 5", Check.INDEX, () -> x.marks(5));
    }

    private static void signalCount() {
        CycleKernel x = new CycleKernel(1);
        for (int i = 0; i < 200; i++) {
            CHECK.due("signal(0, 1)", x.signal(0, 1), i);
        }
        CHECK.isThrown("signal 200", Check.STATE, () -> x.signal(0, 1));
        CHECK.isThrown("signal 200, of a wrong class", Check.ARGUMENT, () -> x.signal(9, 1));
        CHECK.due("marks(199)", x.marks(199), 0);
        CHECK.isThrown("marks(200)", Check.INDEX, () -> x.marks(200));
    }

    private static void signalElements() {
        CycleKernel x = new CycleKernel(1);
        for (int i = 0; i < 7; i++) {
            x.signal(1, 64);
        }
        CHECK.due("signal(1, 60)", x.signal(1, 60), 7);
        CHECK.isThrown("5 more than 508", Check.STATE, () -> x.signal(1, 5));
        CHECK.due("signal(1, 3)", x.signal(1, 3), 8);
        CHECK.due("element 512", x.signal(2, 1), 9);
        CHECK.isThrown("element 513", Check.STATE, () -> x.signal(0, 1));
    }

    private static void processCount() {
        CycleKernel x = new CycleKernel(1);
        for (int i = 0; i < 63; i++) {
            CHECK.due("process()", x.process(), i);
        }
        CHECK.isThrown("state(63)", Check.INDEX, () -> x.state(63));
        CHECK.due("process()", x.process(), 63);
        CHECK.isThrown("process 64", Check.STATE, x::process);
        CHECK.isThrown("state(64)", Check.INDEX, () -> x.state(64));
        CycleKernel y = new CycleKernel(1);
        y.start();
        CHECK.isThrown("process() behind the start", Check.STATE, y::process);
        CHECK.isThrown("state(0)", Check.INDEX, () -> y.state(0));
    }

    private static void driveOrdinary() {
        CycleKernel x = new CycleKernel(1);
        x.signal(0, 1);
        x.signal(1, 3);
        x.process();
        x.process();
        CHECK.due("pending(0, 1, 2) without a driver", x.pending(0, 1, 2), CycleKernel.NONE);
        x.drive(0, 1);
        x.drive(0, 1);
        x.drive(1, 1);
        CHECK.due("pending(0, 1, 2)", x.pending(0, 1, 2), 0);
        CHECK.due("pending(1, 1, 0)", x.pending(1, 1, 0), 0);
        CHECK.due("pending(0, 0, 0)", x.pending(0, 0, 0), CycleKernel.NONE);
        int[][] wrong = {{-1, 0}, {2, 0}, {0, -1}, {0, 2}, {Integer.MAX_VALUE, 0},
            {0, Integer.MIN_VALUE}};
        for (int[] w : wrong) {
            CHECK.isThrown("drive(" + w[0] + ", " + w[1] + ")", Check.INDEX,
                () -> x.drive(w[0], w[1]));
        }
    }

    private static void driveNumber() {
        CycleKernel x = new CycleKernel(1);
        x.signal(2, 1);
        x.process();
        x.process();
        x.drive(1, 0);
        x.drive(1, 0);
        CHECK.isThrown("a second driver of a number", Check.STATE, () -> x.drive(0, 0));
        CHECK.due("pending(0, 0, 0)", x.pending(0, 0, 0), CycleKernel.NONE);
        CHECK.due("pending(1, 0, 0)", x.pending(1, 0, 0), 0);
    }

    private static void driveElements() {
        CycleKernel x = new CycleKernel(1);
        x.signal(1, 64);
        x.signal(1, 60);
        x.signal(1, 5);
        x.signal(1, 4);
        x.signal(0, 1);
        for (int p = 0; p < 9; p++) {
            x.process();
        }
        for (int p = 0; p < 7; p++) {
            x.drive(p, 0);
        }
        x.drive(7, 1);
        CHECK.isThrown("513 elements", Check.STATE, () -> x.drive(7, 2));
        CHECK.due("it has no driver", x.pending(7, 2, 0), CycleKernel.NONE);
        x.drive(7, 3);
        CHECK.isThrown("one more than 512", Check.STATE, () -> x.drive(8, 4));
        x.drive(7, 3);
        x.drive(0, 0);
        CHECK.due("it drives already", x.pending(7, 3, 3), 0);
    }

    private static void driveOrder() {
        CycleKernel x = new CycleKernel(1);
        x.signal(0, 1);
        x.process();
        x.drive(0, 0);
        x.start();
        CHECK.isThrown("drive behind the start", Check.STATE, () -> x.drive(0, 0));
        CHECK.isThrown("no such process behind the start", Check.INDEX, () -> x.drive(1, 0));
        CHECK.isThrown("no such signal behind the start", Check.INDEX, () -> x.drive(0, 1));
    }

    private static void firstValues() {
        CycleKernel x = new CycleKernel(1);
        x.signal(0, 1);
        x.signal(1, 2);
        x.signal(2, 1);
        for (int v = 0; v <= 8; v++) {
            x.first(0, 0, v);
            CHECK.due("value(0, 0) is " + v, x.value(0, 0, false), v);
        }
        x.first(1, 1, 8);
        CHECK.due("value(1, 1)", x.value(1, 1, false), 8);
        CHECK.due("value(1, 0)", x.value(1, 0, false), 0);
        CHECK.due("the last value before the start", x.value(1, 1, true), 0);
        for (int v : new int[] {Integer.MIN_VALUE, Integer.MAX_VALUE, -1, 9}) {
            x.first(2, 0, v);
            CHECK.due("a number's first value", x.value(2, 0, false), v);
            CHECK.isThrown("first of logic " + v, Check.ARGUMENT, () -> x.first(0, 0, v));
            CHECK.isThrown("first of a row " + v, Check.ARGUMENT, () -> x.first(1, 0, v));
        }
        CHECK.due("logic stays", x.value(0, 0, false), 8);
        CHECK.due("a row's element stays", x.value(1, 0, false), 0);
    }

    private static void firstOrder() {
        CycleKernel x = new CycleKernel(1);
        x.signal(1, 2);
        int[][] wrong = {{-1, 0}, {1, 0}, {0, -1}, {0, 2}, {0, Integer.MAX_VALUE},
            {Integer.MIN_VALUE, 0}};
        for (int[] w : wrong) {
            CHECK.isThrown("first(" + w[0] + ", " + w[1] + ", 9)", Check.INDEX,
                () -> x.first(w[0], w[1], 9));
        }
        x.start();
        CHECK.isThrown("first(0, 2, 9) behind the start", Check.INDEX, () -> x.first(0, 2, 9));
        CHECK.isThrown("first(0, 1, 9) behind the start", Check.ARGUMENT,
            () -> x.first(0, 1, 9));
        CHECK.isThrown("first(0, 1, 3) behind the start", Check.STATE, () -> x.first(0, 1, 3));
        CHECK.due("value(0, 1)", x.value(0, 1, false), 0);
    }

    private static void startOrdinary() {
        CycleKernel x = new CycleKernel(1);
        x.process();
        x.process();
        CHECK.due("state(1) before the start", x.state(1), CycleKernel.WAITS);
        x.start();
        CHECK.due("state(0)", x.state(0), CycleKernel.RUNS);
        CHECK.due("state(1)", x.state(1), CycleKernel.RUNS);
        CHECK.due("now()", x.now(), 0);
        CHECK.due("step()", x.step(), 0);
        x.end(1);
        CHECK.isThrown("a second start", Check.STATE, x::start);
        CHECK.due("state(1) stays", x.state(1), CycleKernel.ENDED);
    }

    private static void startValues() {
        CycleKernel x = new CycleKernel(1);
        x.signal(1, 9);
        x.signal(1, 9);
        x.signal(2, 1);
        x.signal(2, 1);
        x.process();
        x.process();
        x.drive(0, 0);
        x.drive(1, 0);
        x.drive(1, 2);
        for (int v = 0; v <= 8; v++) {
            x.first(0, v, v);
            x.first(1, v, v);
        }
        x.first(2, 0, -5);
        x.first(3, 0, -6);
        CHECK.due("a driver's value before the start", x.projected(0, 0, 3, 0), 0);
        x.start();
        for (int v = 0; v <= 8; v++) {
            int driven = v == 8 ? 1 : v;
            CHECK.due("driven " + v, x.value(0, v, false), driven);
            CHECK.due("driven last " + v, x.value(0, v, true), driven);
            CHECK.due("not driven " + v, x.value(1, v, false), v);
            CHECK.due("not driven last " + v, x.value(1, v, true), v);
            CHECK.due("a driver's own " + v, x.projected(1, 0, v, 0), v);
        }
        CHECK.due("a number", x.value(2, 0, false), -5);
        CHECK.due("a number's last", x.value(2, 0, true), -5);
        CHECK.due("a number not driven", x.value(3, 0, false), -6);
        CHECK.due("a number's last, not driven", x.value(3, 0, true), -6);
        CHECK.due("marks(0)", x.marks(0), 0);
        CHECK.due("event(0)", x.event(0), CycleKernel.NONE);
    }

    private static void emptyStart() {
        CycleKernel x = new CycleKernel(1);
        x.start();
        CHECK.due("cycle()", x.cycle(), CycleKernel.QUIET);
        CHECK.due("next()", x.next(), CycleKernel.NONE);
    }
}
