/** Promises 7 to 10 at their boundaries: wave, put, drop, assign. */
public final class AssignBoundaryTest extends Boundary {
    private static final Check CHECK = new Check("AssignBoundaryTest");

    public static void main(String[] args) {
        delaysOfWaves();
        delayOfAWaveAtALaterTime();
        sixteenWaves();
        waveExceptionsInOrder();
        wavesAreZeroInAllElements();
        wavesAreZeroWhenUsedAgain();
        wavesBeforeTheStart();
        elementsOfPut();
        putOfAnyInt();
        putToTheLatest();
        putWhenNothingIsLaidDown();
        putExceptionsInOrder();
        dropOfNothing();
        dropOfAllValues();
        dropOfAllSignals();
        nothingIsLaidDownBehindAnAssignment();
        assignOfNoProcess();
        assignOfNoSignal();
        assignFromNoElement();
        assignOfTooManyElements();
        assignOfTooFewElements();
        assignOfTheLastElement();
        assignOfAllElements();
        assignWhenItDoesNotRun();
        assignBeforeTheStart();
        assignToWhatItDoesNotDrive();
        assignOfNothing();
        modes();
        delaysThatAreTheSame();
        delaysThatFall();
        delaysThatRiseByOne();
        timesAtZero();
        timesAtOne();
        timesAtTheLast();
        limitsOfModeTwo();
        limitIsNotAboveTheFirstDelay();
        limitsOfOtherModes();
        valuesOfLogic();
        valuesOfARow();
        valuesOfANumber();
        lookedAtInAssignedElementsOnly();
        CHECK.close();
    }

    private static void delaysOfWaves() {
        Run x = running(CHECK, "wave: when the delay is below 0 or above 2^60");
        for (long delay : new long[] {-1, LAST_TIME + 1, LEAST_LONG, MOST_LONG, -LAST_TIME}) {
            x.refuses(ARGUMENT).wave(delay);
        }
        x.wave(0);
        x.wave(LAST_TIME);
        x.gives(0).assign(0, 2, 0, 1, 1, 0);
        x.gives(2).pending(0, 2, 0);
    }

    /** wave() asks for the delay by itself; whether its time is there is asked by assign(). */
    private static void delayOfAWaveAtALaterTime() {
        Run x = runningAt(CHECK, "wave: a delay of 2^60 at any time", 7);
        x.wave(LAST_TIME);
        x.refuses(ARGUMENT).wave(LAST_TIME + 1);
        x.refuses(ARGUMENT).assign(0, 2, 0, 1, 1, 0);
    }

    private static void sixteenWaves() {
        Run x = running(CHECK, "wave: IllegalStateException when 16 are");
        layMany(x, 15, 0);
        x.wave(LAST_TIME);
        x.put(0, 5);
        x.refuses(STATE).wave(16);
        x.refuses(STATE).wave(0);
        x.refuses(STATE).wave(LAST_TIME);
        x.gives(0).assign(0, 2, 0, 1, 1, 0);
        x.gives(16).pending(0, 2, 0);
        x.gives(0).projected(0, 2, 0, LAST_TIME - 1);
        x.gives(5).projected(0, 2, 0, LAST_TIME);
        layMany(x, 16, 0);
        x.refuses(STATE).wave(16);
    }

    private static void waveExceptionsInOrder() {
        Run x = running(CHECK, "wave: IllegalArgumentException is named first");
        layMany(x, 16, 0);
        x.refuses(ARGUMENT).wave(-1);
        x.refuses(ARGUMENT).wave(LAST_TIME + 1);
    }

    private static Run wide(String sentence) {
        Run x = new Run(CHECK, sentence, 1);
        x.signal(ROW, 64);
        x.process();
        x.drive(0, 0);
        for (int k = 0; k < 64; k++) {
            x.first(0, k, ONE);
        }
        x.start();
        return x;
    }

    private static void allAre(Run x, long time, int value) {
        for (int k = 0; k < 64; k++) {
            x.gives(value).projected(0, 0, k, time);
        }
    }

    private static void wavesAreZeroInAllElements() {
        Run x = wide("wave: its elements all 0 (one for each of 64)");
        x.wave(4);
        x.gives(0).assign(0, 0, 0, 64, 0, 0);
        allAre(x, 3, ONE);
        allAre(x, 4, U);
    }

    private static void wavesAreZeroWhenUsedAgain() {
        Run x = wide("wave: its elements all 0, also where others were before");
        layMany(x, 16, 0);
        for (int k = 0; k < 64; k++) {
            x.put(k, H);
        }
        x.gives(0).assign(0, 0, 0, 64, 1, 0);
        allAre(x, 15, H);
        layMany(x, 16, 16);
        x.gives(0).assign(0, 0, 0, 64, 1, 0);
        allAre(x, 31, U);
    }

    private static void wavesBeforeTheStart() {
        Run x = small(CHECK, "a value is laid down for the next assignment");
        lay(x, 3, 33);
        x.start();
        x.gives(0).assign(0, 2, 0, 1, 0, 0);
        row(x, 0, 2, 0, 3, 33);
    }

    private static void elementsOfPut() {
        Run x = wide("put: IndexOutOfBoundsException when k is not 0 .. 63");
        x.wave(1);
        for (int k : new int[] {-1, 64, LEAST_INT, MOST_INT}) {
            x.refuses(INDEX).put(k, ONE);
        }
        x.put(0, L);
        x.put(63, H);
        x.assign(0, 0, 0, 64, 0, 0);
        x.gives(L).projected(0, 0, 0, 1);
        x.gives(U).projected(0, 0, 1, 1);
        x.gives(U).projected(0, 0, 62, 1);
        x.gives(H).projected(0, 0, 63, 1);
    }

    private static void putOfAnyInt() {
        Run x = running(CHECK, "put: any int: assign() looks at it");
        x.wave(1);
        for (int value : new int[] {-1, 9, LEAST_INT, MOST_INT}) {
            x.put(0, value);
            x.put(63, value);
            x.refuses(ARGUMENT).assign(0, 0, 0, 1, 0, 0);
        }
        x.gives(0).assign(0, 2, 0, 1, 0, 0);
        x.gives(MOST_INT).projected(0, 2, 0, 1);
    }

    private static void putToTheLatest() {
        Run x = running(CHECK, "put: element k of the latest value that is laid down");
        layMany(x, 16, 0);
        x.put(0, 5);
        x.put(0, 6);
        x.assign(0, 2, 0, 1, 1, 0);
        x.gives(0).projected(0, 2, 0, 14);
        x.gives(6).projected(0, 2, 0, 15);
    }

    private static void putWhenNothingIsLaidDown() {
        Run x = running(CHECK, "put: IllegalStateException when none is");
        x.refuses(STATE).put(0, 1);
        x.refuses(STATE).put(63, 1);
        lay(x, 1, 1);
        x.drop();
        x.refuses(STATE).put(0, 1);
        set(x, 0, 2, 1, 1);
        x.refuses(STATE).put(0, 1);
        x.on(0);
        x.refuses(STATE).put(0, 1);
        x.wave(0);
        x.put(0, 1);
    }

    private static void putExceptionsInOrder() {
        Run x = running(CHECK, "put: IndexOutOfBoundsException is named first");
        x.refuses(INDEX).put(-1, 1);
        x.refuses(INDEX).put(64, 1);
    }

    private static void dropOfNothing() {
        Run x = new Run(CHECK, "drop of nothing", 1);
        x.drop();
        x.drop();
        x.start();
        x.drop();
        x.gives(QUIET).cycle();
    }

    private static void dropOfAllValues() {
        Run x = running(CHECK, "drop: no values are laid down any more");
        layMany(x, 16, 0);
        x.drop();
        x.refuses(STATE).put(0, 1);
        x.refuses(STATE).assign(0, 2, 0, 1, 1, 0);
        layMany(x, 16, 0);
        x.refuses(STATE).wave(16);
        x.gives(0).assign(0, 2, 0, 1, 1, 0);
    }

    private static void dropOfAllSignals() {
        Run x = running(CHECK, "drop: and no signals");
        for (int s = 0; s < 3; s++) {
            x.on(s);
        }
        x.drop();
        x.suspend(1, false, NONE);
        x.end(2);
        for (int s = 0; s < 3; s++) {
            set(x, 0, s, 1, ONE);
        }
        x.end(0);
        x.gives(TIME).cycle();
        x.gives(2).event(0);
        x.gives(WAITS).state(1);
    }

    private static void nothingIsLaidDownBehindAnAssignment() {
        Run x = running(CHECK, "assign: what is laid down (then nothing is)");
        layMany(x, 16, 0);
        x.gives(0).assign(0, 2, 0, 1, 1, 0);
        x.refuses(STATE).assign(0, 2, 0, 1, 1, 0);
        x.refuses(STATE).put(0, 1);
        lay(x, 20, 4);
        x.gives(0).assign(0, 2, 0, 1, 1, 0);
        x.gives(17).pending(0, 2, 0);
    }

    private static void assignOfNoProcess() {
        Run x = running(CHECK, "assign: there is no such process");
        lay(x, 1, ONE);
        for (int p : new int[] {-1, 3, LEAST_INT, MOST_INT}) {
            x.refuses(INDEX).assign(p, 0, 0, 1, 0, 0);
        }
        x.gives(0).assign(0, 0, 0, 1, 0, 0);
    }

    private static void assignOfNoSignal() {
        Run x = running(CHECK, "assign: there is no such signal");
        lay(x, 1, ONE);
        for (int s : new int[] {-1, 3, LEAST_INT, MOST_INT}) {
            x.refuses(INDEX).assign(0, s, 0, 1, 0, 0);
        }
        x.gives(0).assign(0, 2, 0, 1, 0, 0);
    }

    private static void assignFromNoElement() {
        Run x = running(CHECK, "assign: there is no such element");
        lay(x, 1, ONE);
        for (int first : new int[] {-1, 4, 64, LEAST_INT, MOST_INT}) {
            x.refuses(INDEX).assign(0, 1, first, 1, 0, 0);
        }
        x.refuses(INDEX).assign(0, 0, 1, 1, 0, 0);
        x.refuses(INDEX).assign(0, 2, 1, 1, 0, 0);
        x.refuses(INDEX).assign(0, 1, -1, 2, 0, 0);
    }

    private static void assignOfTooManyElements() {
        Run x = running(CHECK, "assign: when not all n elements are there");
        lay(x, 1, ONE);
        for (int first = 0; first < 4; first++) {
            x.refuses(INDEX).assign(0, 1, first, 5 - first, 0, 0);
            x.refuses(INDEX).assign(0, 1, first, MOST_INT, 0, 0);
            x.refuses(INDEX).assign(0, 1, first, MOST_INT - first, 0, 0);
        }
        x.refuses(INDEX).assign(0, 0, 0, 2, 0, 0);
        x.refuses(INDEX).assign(0, 2, 0, 2, 0, 0);
        x.refuses(INDEX).assign(0, 1, MOST_INT, MOST_INT, 0, 0);
        x.refuses(INDEX).assign(0, 1, MOST_INT, 2, 0, 0);
    }

    private static void assignOfTooFewElements() {
        Run x = running(CHECK, "assign: or n is below 1");
        lay(x, 1, ONE);
        for (int n : new int[] {0, -1, LEAST_INT}) {
            x.refuses(INDEX).assign(0, 1, 0, n, 0, 0);
            x.refuses(INDEX).assign(0, 1, 3, n, 0, 0);
            x.refuses(INDEX).assign(0, 1, 4, n, 0, 0);
        }
        x.gives(0).assign(0, 1, 0, 1, 0, 0);
        x.gives(1).pending(0, 1, 0);
        x.gives(0).pending(0, 1, 1);
    }

    private static void assignOfTheLastElement() {
        Run x = running(CHECK, "assign: to n elements from one on, element 0 to the first");
        x.wave(1);
        x.put(0, L);
        x.put(1, H);
        x.assign(0, 1, 2, 2, 0, 0);
        int[] due = {U, U, L, H};
        for (int k = 0; k < 4; k++) {
            x.gives(due[k]).projected(0, 1, k, 1);
        }
        set(x, 0, 0, 1, W);
        lay(x, 2, Z);
        x.assign(0, 1, 3, 1, 0, 0);
        x.gives(Z).projected(0, 1, 3, 2);
        x.gives(L).projected(0, 1, 2, 2);
    }

    private static void assignOfAllElements() {
        Run x = wide("assign: all of 64 elements, each its own");
        x.wave(1);
        for (int k = 0; k < 64; k++) {
            x.put(k, k % 9);
        }
        x.gives(0).assign(0, 0, 0, 64, 0, 0);
        for (int k = 0; k < 64; k++) {
            x.gives(k % 9).projected(0, 0, k, 1);
        }
    }

    private static void assignWhenItDoesNotRun() {
        Run x = inEachState(CHECK, "assign: IllegalStateException when it does not run");
        lay(x, 1, ONE);
        for (int p = 1; p < 4; p++) {
            x.refuses(STATE).assign(p, 0, 0, 1, 0, 0);
            x.refuses(STATE).assign(p, 1, 3, 1, 0, 0);
        }
        x.gives(0).assign(0, 0, 0, 1, 0, 0);
        lay(x, 2, ZERO);
        x.answer(1, true);
        x.gives(0).assign(1, 0, 0, 1, 0, 0);
    }

    private static void assignBeforeTheStart() {
        Run x = small(CHECK, "assign: it does not run before the start");
        lay(x, 1, ONE);
        x.refuses(STATE).assign(0, 0, 0, 1, 0, 0);
        x.start();
        x.gives(0).assign(0, 0, 0, 1, 0, 0);
    }

    private static void assignToWhatItDoesNotDrive() {
        Run x = running(CHECK, "assign: or does not drive the signal");
        lay(x, 1, ONE);
        x.refuses(STATE).assign(1, 2, 0, 1, 0, 0);
        x.refuses(STATE).assign(2, 0, 0, 1, 0, 0);
        x.refuses(STATE).assign(2, 1, 0, 4, 0, 0);
        x.gives(0).assign(1, 1, 0, 4, 0, 0);
        x.gives(1).pending(1, 1, 3);
        x.gives(0).pending(0, 1, 3);
    }

    private static void assignOfNothing() {
        Run x = running(CHECK, "assign: or nothing is laid down");
        for (int mode = 0; mode <= 2; mode++) {
            x.refuses(STATE).assign(0, 0, 0, 1, mode, 0);
        }
        x.on(0);
        x.refuses(STATE).assign(0, 0, 0, 1, 0, 0);
        x.wave(0);
        x.gives(0).assign(0, 0, 0, 1, 0, 0);
    }

    private static void modes() {
        Run x = running(CHECK, "assign: when the mode is not 0 .. 2");
        lay(x, 5, ONE);
        for (int mode : new int[] {-1, 3, LEAST_INT, MOST_INT}) {
            x.refuses(ARGUMENT).assign(0, 0, 0, 1, mode, 0);
            x.refuses(ARGUMENT).assign(0, 2, 0, 1, mode, 5);
        }
        x.gives(0).assign(0, 0, 0, 1, 0, 0);
        for (int mode = 1; mode <= 2; mode++) {
            lay(x, 5, ONE);
            x.gives(1).assign(0, 0, 0, 1, mode, 0);
        }
    }

    private static void delaysThatAreTheSame() {
        for (long delay : new long[] {0, 5, LAST_TIME}) {
            Run x = running(CHECK, "assign: the delays do not rise (two are the same)");
            x.wave(delay);
            x.wave(delay);
            for (int mode = 0; mode <= 2; mode++) {
                x.refuses(ARGUMENT).assign(0, 0, 0, 1, mode, 0);
            }
        }
        Run y = running(CHECK, "assign: the last two of 16 delays are the same");
        layMany(y, 15, 0);
        y.wave(14);
        y.refuses(ARGUMENT).assign(0, 0, 0, 1, 1, 0);
    }

    private static void delaysThatFall() {
        Run x = running(CHECK, "assign: the delays do not rise");
        x.wave(1);
        x.wave(0);
        x.refuses(ARGUMENT).assign(0, 0, 0, 1, 1, 0);
        x.drop();
        x.wave(3);
        x.wave(5);
        x.wave(4);
        x.refuses(ARGUMENT).assign(0, 0, 0, 1, 1, 0);
        x.drop();
        x.wave(LAST_TIME);
        x.wave(0);
        x.refuses(ARGUMENT).assign(0, 0, 0, 1, 1, 0);
    }

    private static void delaysThatRiseByOne() {
        Run x = running(CHECK, "assign: delays that rise by one");
        lay(x, 0, 1, 1, 2, LAST_TIME - 1, 3, LAST_TIME, 4);
        x.gives(0).assign(0, 2, 0, 1, 1, 0);
        row(x, 0, 2, 0, 0, 1, 1, 2, LAST_TIME - 1, 3, LAST_TIME, 4);
        x.gives(2).projected(0, 2, 0, LAST_TIME - 2);
    }

    private static void timesAtZero() {
        Run x = running(CHECK, "assign: a time of 2^60");
        x.wave(LAST_TIME);
        x.gives(0).assign(0, 0, 0, 1, 0, 0);
        x.gives(LAST_TIME).next();
    }

    private static void timesAtOne() {
        Run x = runningAt(CHECK, "assign: a time would be above 2^60", 1);
        x.wave(LAST_TIME);
        for (int mode = 0; mode <= 2; mode++) {
            x.refuses(ARGUMENT).assign(0, 0, 0, 1, mode, 0);
        }
        x.drop();
        x.wave(LAST_TIME - 1);
        x.gives(0).assign(0, 0, 0, 1, 0, 0);
        x.gives(LAST_TIME).next();
        layMany(x, 15, 0);
        x.wave(LAST_TIME);
        x.refuses(ARGUMENT).assign(0, 0, 0, 1, 1, 0);
        x.gives(1).pending(0, 0, 0);
    }

    private static void timesAtTheLast() {
        Run x = runningAt(CHECK, "assign: at 2^60 only a delay of 0 is left", LAST_TIME);
        x.wave(1);
        x.refuses(ARGUMENT).assign(0, 0, 0, 1, 0, 0);
        x.drop();
        x.wave(0);
        x.wave(1);
        x.refuses(ARGUMENT).assign(0, 0, 0, 1, 1, 0);
        x.drop();
        x.wave(LAST_TIME);
        x.refuses(ARGUMENT).assign(0, 0, 0, 1, 2, 0);
        x.drop();
        lay(x, 0, ONE);
        x.gives(0).assign(0, 0, 0, 1, 0, 0);
        x.gives(LAST_TIME).next();
        x.suspend(0, false, NONE);
        x.gives(STEP).cycle();
        x.gives(QUIET).cycle();
    }

    private static void limitsOfModeTwo() {
        Run x = running(CHECK, "assign: for mode 2 the limit is below 0");
        for (int i = 0; i < 3; i++) {
            lay(x, 5, ONE);
            x.refuses(ARGUMENT).assign(0, 0, 0, 1, 2, -1);
            x.refuses(ARGUMENT).assign(0, 0, 0, 1, 2, LEAST_LONG);
            x.gives(i == 0 ? 0 : 1).assign(0, 0, 0, 1, 2, i);
        }
    }

    private static void limitIsNotAboveTheFirstDelay() {
        for (long delay : new long[] {0, 5, LAST_TIME - 1}) {
            Run x = running(CHECK, "assign: for mode 2 the limit is above the first delay");
            lay(x, delay, ONE, delay + 1, ZERO);
            x.refuses(ARGUMENT).assign(0, 0, 0, 1, 2, delay + 1);
            x.refuses(ARGUMENT).assign(0, 0, 0, 1, 2, delay + 2);
            x.refuses(ARGUMENT).assign(0, 0, 0, 1, 2, MOST_LONG);
            x.gives(0).assign(0, 0, 0, 1, 2, delay);
        }
    }

    private static void limitsOfOtherModes() {
        Run x = running(CHECK, "assign: for modes 0 and 1 any limit");
        int deleted = 0;
        for (long limit : new long[] {-1, 6, LEAST_LONG, MOST_LONG}) {
            for (int mode = 0; mode <= 1; mode++) {
                lay(x, 5, ONE);
                x.gives(deleted).assign(0, 0, 0, 1, mode, limit);
                deleted = 1;
            }
        }
    }

    private static void valuesOfLogic() {
        Run x = running(CHECK, "assign: or an element can't be a value of LOGIC");
        for (int value : new int[] {-1, 9, LEAST_INT, MOST_INT}) {
            lay(x, 1, value);
            x.refuses(ARGUMENT).assign(0, 0, 0, 1, 0, 0);
            x.drop();
            lay(x, 1, U, 2, FREE, 3, value);
            x.refuses(ARGUMENT).assign(0, 0, 0, 1, 1, 0);
            x.drop();
        }
        lay(x, 1, U, 2, FREE);
        x.gives(0).assign(0, 0, 0, 1, 1, 0);
        row(x, 0, 0, 0, 1, U, 2, FREE);
    }

    private static void valuesOfARow() {
        Run x = running(CHECK, "assign: or an element of a ROW can't be a value of LOGIC");
        for (int k = 0; k < 4; k++) {
            x.wave(1);
            x.put(k, 9);
            x.refuses(ARGUMENT).assign(0, 1, 0, 4, 0, 0);
            x.put(k, -1);
            x.refuses(ARGUMENT).assign(0, 1, 0, 4, 0, 0);
            x.put(k, FREE);
            x.gives(k == 0 ? 0 : 4).assign(0, 1, 0, 4, 0, 0);
        }
        x.gives(FREE).projected(0, 1, 3, 1);
    }

    private static void valuesOfANumber() {
        Run x = running(CHECK, "assign: a NUMBER has 32 bits");
        lay(x, 1, LEAST_INT, 2, -1, 3, 9, 4, MOST_INT);
        x.gives(0).assign(0, 2, 0, 1, 1, 0);
        row(x, 0, 2, 0, 1, LEAST_INT, 2, -1, 3, 9, 4, MOST_INT);
    }

    private static void lookedAtInAssignedElementsOnly() {
        Run x = running(CHECK, "assign: an element that is not assigned is not looked at");
        x.wave(1);
        x.put(2, 9);
        x.put(63, -1);
        x.refuses(ARGUMENT).assign(0, 1, 0, 3, 0, 0);
        x.refuses(ARGUMENT).assign(0, 1, 1, 3, 0, 0);
        x.gives(0).assign(0, 1, 2, 2, 0, 0);
        x.gives(1).pending(0, 1, 3);
    }
}
