/** Promises 1 to 6 at their boundaries: a new object, signal, process, drive, first, start. */
public final class SetupBoundaryTest extends Boundary {
    private static final Check CHECK = new Check("SetupBoundaryTest");

    public static void main(String[] args) {
        leastLimit();
        limitsThatAreNone();
        nothingInANewObject();
        classes();
        elementsOfARow();
        elementsOfOthers();
        signalsAreFull();
        elementsAreFull();
        rowThatIsTooLargeAtTheEnd();
        signalBehindTheStart();
        signalExceptionsInOrder();
        processesAreFull();
        processBehindTheStart();
        driveTwice();
        driveTwiceCountsOnce();
        driveOfNoProcess();
        driveOfNoSignal();
        driveBehindTheStart();
        driveOfANumber();
        driveOfLogicByAll();
        drivenElementsAreFull();
        driveOfARowThatIsTooLarge();
        driveExceptionsInOrder();
        firstOfNoSignal();
        firstOfNoElement();
        firstOfLogic();
        firstOfANumber();
        firstIsZeroOtherwise();
        firstBehindTheStart();
        firstExceptionsInOrder();
        startTwice();
        startOfNothing();
        startOfEverything();
        CHECK.close();
    }

    private static void oneProcessThatWaits(Run x) {
        x.process();
        x.start();
        x.suspend(0, false, 0);
    }

    private static void steps(Run x, int n) {
        for (int i = 0; i < n; i++) {
            x.gives(STEP).cycle();
            x.suspend(0, false, 0);
        }
    }

    /** The other end of this sentence lies beyond 512 calls: see StepLimitTest. */
    private static void leastLimit() {
        for (int limit : new int[] {1, 2, 3, 250}) {
            Run x = new Run(CHECK, "a limit of steps at one time, 1 .. 100000", limit);
            oneProcessThatWaits(x);
            steps(x, limit);
            x.gives(LIMIT).cycle();
            x.gives(limit).step();
        }
    }

    private static void limitsThatAreNone() {
        for (int limit : new int[] {0, -1, LEAST_INT, 100001, MOST_INT}) {
            Run x = new Run(CHECK, "1000 for any other number", limit);
            oneProcessThatWaits(x);
            steps(x, 250);
            x.gives(250).step();
        }
    }

    private static void nothingInANewObject() {
        Run x = new Run(CHECK, "no signals, no processes, before the start", 1);
        x.refuses(INDEX).marks(0);
        x.refuses(INDEX).value(0, 0, false);
        x.refuses(INDEX).first(0, 0, 0);
        x.refuses(INDEX).on(0);
        x.refuses(INDEX).state(0);
        x.refuses(INDEX).suspend(0, false, 0);
        x.refuses(INDEX).end(0);
        x.refuses(INDEX).answer(0, true);
        x.refuses(INDEX).drive(0, 0);
        x.refuses(INDEX).assign(0, 0, 0, 1, 0, 0);
        x.refuses(INDEX).pending(0, 0, 0);
        x.refuses(INDEX).projected(0, 0, 0, 0);
        x.refuses(STATE).cycle();
        x.refuses(STATE).put(0, 0);
        x.gives(NONE).which(WAITS, 0);
        x.gives(NONE).event(0);
        x.gives(NONE).next();
        x.gives(0).now();
        x.gives(0).step();
        x.gives(0).signal(LOGIC, 1);
        x.gives(0).process();
        x.start();
    }

    private static void classes() {
        Run x = new Run(CHECK, "IllegalArgumentException when there is no such class", 1);
        for (int is : new int[] {-1, 3, LEAST_INT, MOST_INT}) {
            x.refuses(ARGUMENT).signal(is, 1);
        }
        x.gives(0).signal(LOGIC, 1);
        x.gives(1).signal(ROW, 1);
        x.gives(2).signal(NUMBER, 1);
    }

    private static void elementsOfARow() {
        Run x = new Run(CHECK, "or n is not 1 .. 64", 1);
        for (int n : new int[] {0, 65, -1, LEAST_INT, MOST_INT}) {
            x.refuses(ARGUMENT).signal(ROW, n);
        }
        x.gives(0).signal(ROW, 1);
        x.gives(1).signal(ROW, 64);
        x.gives(0).value(0, 0, false);
        x.refuses(INDEX).value(0, 1, false);
        x.gives(0).value(1, 63, false);
        x.refuses(INDEX).value(1, 64, false);
    }

    private static void elementsOfOthers() {
        for (int is : new int[] {LOGIC, NUMBER}) {
            Run x = new Run(CHECK, "n is 1 but for a ROW", 1);
            for (int n : new int[] {0, 2, 64, 65, -1, LEAST_INT, MOST_INT}) {
                x.refuses(ARGUMENT).signal(is, n);
            }
            x.gives(0).signal(is, 1);
            x.refuses(INDEX).value(0, 1, false);
        }
    }

    private static void signalsAreFull() {
        Run x = new Run(CHECK, "IllegalStateException when there are 200", 1);
        for (int i = 0; i < 200; i++) {
            x.gives(i).signal(i % 3, 1);
        }
        x.refuses(STATE).signal(LOGIC, 1);
        x.refuses(STATE).signal(ROW, 1);
        x.refuses(STATE).signal(NUMBER, 1);
        x.gives(0).marks(199);
        x.refuses(INDEX).marks(200);
    }

    private static void elementsAreFull() {
        Run x = new Run(CHECK, "or more than 512 elements of all", 1);
        for (int i = 0; i < 8; i++) {
            x.gives(i).signal(ROW, 64);
        }
        x.refuses(STATE).signal(LOGIC, 1);
        x.refuses(STATE).signal(NUMBER, 1);
        x.refuses(STATE).signal(ROW, 1);
        x.refuses(STATE).signal(ROW, 64);
        x.gives(0).value(7, 63, false);
        x.refuses(INDEX).marks(8);
    }

    private static void rowThatIsTooLargeAtTheEnd() {
        Run x = new Run(CHECK, "or more than 512 elements of all: what still fits", 1);
        for (int i = 0; i < 7; i++) {
            x.signal(ROW, 64);
        }
        x.signal(LOGIC, 1);
        x.refuses(STATE).signal(ROW, 64);
        x.gives(8).signal(ROW, 61);
        x.refuses(STATE).signal(ROW, 3);
        x.gives(9).signal(ROW, 2);
        x.refuses(STATE).signal(ROW, 1);
    }

    private static void signalBehindTheStart() {
        Run x = small(CHECK, "a signal behind the start");
        x.gives(3).signal(NUMBER, 1);
        x.start();
        for (int is = LOGIC; is <= NUMBER; is++) {
            x.refuses(STATE).signal(is, 1);
        }
        x.refuses(INDEX).marks(4);
    }

    private static void signalExceptionsInOrder() {
        Run x = new Run(CHECK, "signal: IllegalArgumentException is named first", 1);
        for (int i = 0; i < 200; i++) {
            x.signal(LOGIC, 1);
        }
        x.refuses(ARGUMENT).signal(3, 1);
        x.refuses(ARGUMENT).signal(-1, 1);
        x.refuses(ARGUMENT).signal(ROW, 65);
        x.refuses(ARGUMENT).signal(LOGIC, 2);
        x.start();
        x.refuses(ARGUMENT).signal(3, 1);
        x.refuses(ARGUMENT).signal(NUMBER, 0);
        Run y = new Run(CHECK, "signal: IllegalArgumentException before too many elements", 1);
        for (int i = 0; i < 8; i++) {
            y.signal(ROW, 64);
        }
        y.refuses(ARGUMENT).signal(ROW, 65);
        y.refuses(ARGUMENT).signal(ROW, 0);
        y.refuses(ARGUMENT).signal(NUMBER, 2);
        y.refuses(ARGUMENT).signal(9, 1);
    }

    private static void processesAreFull() {
        Run x = new Run(CHECK, "IllegalStateException when there are 64", 1);
        for (int p = 0; p < 64; p++) {
            x.refuses(INDEX).state(p);
            x.gives(p).process();
            x.gives(WAITS).state(p);
        }
        x.refuses(STATE).process();
        x.refuses(INDEX).state(64);
        x.gives(63).which(WAITS, 63);
        x.gives(NONE).which(WAITS, 64);
    }

    private static void processBehindTheStart() {
        Run x = small(CHECK, "a process behind the start");
        x.gives(3).process();
        x.start();
        x.refuses(STATE).process();
        x.refuses(INDEX).state(4);
    }

    private static void driveTwice() {
        Run x = small(CHECK, "nothing changes when it does already");
        x.drive(0, 0);
        x.drive(0, 1);
        x.drive(0, 2);
        for (int s = 0; s < 3; s++) {
            x.gives(0).pending(0, s, 0);
        }
        x.first(2, 0, 77);
        x.start();
        x.gives(77).value(2, 0, false);
    }

    private static void driveTwiceCountsOnce() {
        Run x = new Run(CHECK, "nothing changes when it does already: its elements count once", 1);
        x.signal(ROW, 64);
        for (int p = 0; p < 9; p++) {
            x.process();
        }
        for (int p = 0; p < 8; p++) {
            x.drive(p, 0);
            x.drive(p, 0);
        }
        for (int p = 0; p < 8; p++) {
            x.drive(p, 0);
        }
        x.refuses(STATE).drive(8, 0);
    }

    private static void driveOfNoProcess() {
        Run x = small(CHECK, "drive: there is no such process");
        for (int p : new int[] {-1, 3, 64, LEAST_INT, MOST_INT}) {
            x.refuses(INDEX).drive(p, 0);
        }
        x.gives(NONE).pending(2, 0, 0);
        x.drive(2, 0);
        x.gives(0).pending(2, 0, 0);
    }

    private static void driveOfNoSignal() {
        Run x = small(CHECK, "drive: there is no such signal");
        for (int s : new int[] {-1, 3, 200, LEAST_INT, MOST_INT}) {
            x.refuses(INDEX).drive(1, s);
        }
        x.gives(3).signal(NUMBER, 1);
        x.drive(1, 3);
        x.gives(0).pending(1, 3, 0);
    }

    private static void driveBehindTheStart() {
        Run x = running(CHECK, "drive: IllegalStateException behind the start");
        x.refuses(STATE).drive(2, 0);
        x.gives(NONE).pending(2, 0, 0);
        x.refuses(STATE).drive(0, 0);
        x.gives(0).pending(0, 0, 0);
    }

    private static void driveOfANumber() {
        Run x = small(CHECK, "when a NUMBER has another process's driver");
        x.refuses(STATE).drive(1, 2);
        x.refuses(STATE).drive(2, 2);
        x.drive(0, 2);
        x.gives(NONE).pending(1, 2, 0);
        x.gives(0).pending(0, 2, 0);
    }

    private static void driveOfLogicByAll() {
        Run x = new Run(CHECK, "a signal of LOGIC or a ROW may have drivers of several", 1);
        x.signal(LOGIC, 1);
        x.signal(ROW, 7);
        for (int p = 0; p < 64; p++) {
            x.process();
            x.drive(p, 0);
            x.drive(p, 1);
        }
        for (int p = 0; p < 64; p++) {
            x.gives(0).pending(p, 0, 0);
            x.gives(0).pending(p, 1, 6);
        }
    }

    private static void drivenElementsAreFull() {
        Run x = new Run(CHECK, "or all drivers would have more than 512 elements", 1);
        x.signal(ROW, 64);
        x.signal(LOGIC, 1);
        x.signal(NUMBER, 1);
        x.signal(ROW, 64);
        for (int p = 0; p < 8; p++) {
            x.process();
            x.drive(p, 0);
        }
        x.refuses(STATE).drive(0, 1);
        x.refuses(STATE).drive(7, 2);
        x.refuses(STATE).drive(0, 3);
        x.drive(7, 0);
        x.gives(0).pending(7, 0, 63);
        x.gives(NONE).pending(7, 2, 0);
        x.gives(4).signal(NUMBER, 1);
    }

    private static void driveOfARowThatIsTooLarge() {
        Run x = new Run(CHECK, "more than 512 elements of drivers: what still fits", 1);
        x.signal(ROW, 64);
        x.signal(ROW, 62);
        x.signal(ROW, 3);
        x.signal(ROW, 2);
        for (int p = 0; p < 8; p++) {
            x.process();
        }
        for (int p = 0; p < 7; p++) {
            x.drive(p, 0);
        }
        x.drive(7, 1);
        x.refuses(STATE).drive(7, 2);
        x.gives(NONE).pending(7, 2, 0);
        x.drive(7, 3);
        x.gives(0).pending(7, 3, 1);
    }

    private static void driveExceptionsInOrder() {
        Run x = running(CHECK, "drive: IndexOutOfBoundsException is named first");
        x.refuses(INDEX).drive(3, 0);
        x.refuses(INDEX).drive(-1, 2);
        x.refuses(INDEX).drive(0, 3);
        x.refuses(INDEX).drive(1, -1);
        Run y = new Run(CHECK, "drive: IndexOutOfBoundsException before too many elements", 1);
        y.signal(ROW, 64);
        for (int p = 0; p < 8; p++) {
            y.process();
            y.drive(p, 0);
        }
        y.refuses(INDEX).drive(8, 0);
        y.refuses(INDEX).drive(0, 1);
        Run z = small(CHECK, "drive: IndexOutOfBoundsException before a NUMBER's driver");
        z.refuses(INDEX).drive(3, 2);
    }

    private static void firstOfNoSignal() {
        Run x = small(CHECK, "first: there is no such signal");
        for (int s : new int[] {-1, 3, 200, LEAST_INT, MOST_INT}) {
            x.refuses(INDEX).first(s, 0, ONE);
        }
        x.first(0, 0, ONE);
        x.first(2, 0, ONE);
        x.gives(ONE).value(0, 0, false);
        x.gives(ONE).value(2, 0, false);
    }

    private static void firstOfNoElement() {
        Run x = small(CHECK, "first: there is no such element");
        for (int k : new int[] {-1, 4, 64, LEAST_INT, MOST_INT}) {
            x.refuses(INDEX).first(1, k, ONE);
        }
        x.refuses(INDEX).first(0, 1, ONE);
        x.refuses(INDEX).first(2, 1, ONE);
        x.first(1, 0, ONE);
        x.first(1, 3, H);
        int[] due = {ONE, U, U, H};
        for (int k = 0; k < 4; k++) {
            x.gives(due[k]).value(1, k, false);
        }
    }

    private static void firstOfLogic() {
        Run x = small(CHECK, "when a signal of LOGIC or a ROW can't have it");
        for (int s = 0; s < 2; s++) {
            x.first(s, 0, FREE);
            for (int value : new int[] {-1, 9, LEAST_INT, MOST_INT}) {
                x.refuses(ARGUMENT).first(s, 0, value);
            }
            x.gives(FREE).value(s, 0, false);
            x.first(s, 0, U);
            x.gives(U).value(s, 0, false);
        }
        x.refuses(ARGUMENT).first(1, 3, 9);
        x.first(1, 3, FREE);
        x.gives(FREE).value(1, 3, false);
    }

    private static void firstOfANumber() {
        Run x = small(CHECK, "one NUMBER (32 bits)");
        for (int value : new int[] {-1, 9, LEAST_INT, MOST_INT}) {
            x.first(2, 0, value);
            x.gives(value).value(2, 0, false);
        }
        x.start();
        x.gives(MOST_INT).value(2, 0, false);
    }

    private static void firstIsZeroOtherwise() {
        Run x = small(CHECK, "first values (0 otherwise; LAST VALUEs are 0 until then)");
        x.first(0, 0, ONE);
        x.first(2, 0, -5);
        x.gives(U).value(1, 3, false);
        for (int s = 0; s < 3; s++) {
            x.gives(0).value(s, 0, true);
            x.gives(0).projected(0, s, 0, 0);
        }
        x.start();
        x.gives(U).value(1, 3, false);
        x.gives(U).value(1, 3, true);
        x.gives(ONE).value(0, 0, true);
        x.gives(-5).value(2, 0, true);
        x.gives(-5).projected(0, 2, 0, 0);
    }

    private static void firstBehindTheStart() {
        Run x = running(CHECK, "first: IllegalStateException behind the start");
        x.refuses(STATE).first(0, 0, U);
        x.refuses(STATE).first(0, 0, ONE);
        x.refuses(STATE).first(1, 3, FREE);
        x.refuses(STATE).first(2, 0, -1);
    }

    private static void firstExceptionsInOrder() {
        Run x = small(CHECK, "first: index, then argument, then state");
        x.refuses(INDEX).first(3, 0, 9);
        x.refuses(INDEX).first(1, 4, 9);
        x.refuses(INDEX).first(1, -1, -1);
        x.start();
        x.refuses(INDEX).first(3, 0, 9);
        x.refuses(INDEX).first(1, 4, ONE);
        x.refuses(INDEX).first(-1, 0, ONE);
        x.refuses(ARGUMENT).first(0, 0, 9);
        x.refuses(ARGUMENT).first(1, 3, -1);
    }

    private static void startTwice() {
        Run x = running(CHECK, "start: IllegalStateException behind it");
        x.refuses(STATE).start();
        x.end(0);
        x.suspend(1, false, 3);
        x.end(2);
        x.refuses(STATE).start();
        x.gives(TIME).cycle();
        x.refuses(STATE).start();
        x.gives(3).now();
        x.gives(ENDED).state(0);
    }

    private static void startOfNothing() {
        Run x = new Run(CHECK, "the start of an object with nothing in it", 1);
        x.start();
        x.refuses(STATE).start();
        x.gives(0).now();
        x.gives(0).step();
        x.gives(NONE).which(RUNS, 0);
        x.gives(QUIET).cycle();
        x.gives(QUIET).cycle();
    }

    private static void startOfEverything() {
        Run x = new Run(CHECK, "START: every process RUNS", 1);
        for (int p = 0; p < 64; p++) {
            x.process();
        }
        for (int i = 0; i < 200; i++) {
            x.signal(NUMBER, 1);
        }
        x.start();
        x.gives(63).which(RUNS, 63);
        for (int p = 0; p < 64; p++) {
            x.gives(RUNS).state(p);
        }
        x.gives(0).marks(199);
        x.gives(NONE).event(0);
    }
}
