/** Promises 11 to 14, 16 and 17 at their boundaries: on, suspend, end, answer, state, which. */
public final class ProcessBoundaryTest extends Boundary {
    private static final Check CHECK = new Check("ProcessBoundaryTest");

    public static void main(String[] args) {
        onOfNoSignal();
        onTheSameTwice();
        onAllSignals();
        onBeforeTheStart();
        suspendWithNoSignals();
        signalsAreGoneBehindSuspend();
        suspendDelays();
        suspendAtALaterTime();
        suspendAtTheLastTime();
        suspendForEver();
        suspendUntilTheNextStep();
        suspendOfNoProcess();
        suspendWhenItDoesNotRun();
        suspendBeforeTheStart();
        suspendExceptionsInOrder();
        refusedSuspendLeavesTheSignals();
        endOfOneThatRuns();
        endOfOneThatIsAsked();
        endOfOthers();
        endOfNoProcess();
        endsForEver();
        answerOfOneThatIsAsked();
        answerOfOthers();
        answerOfNoProcess();
        answerNoAndThenAgain();
        answerNoAndThenItsTime();
        stateOfNoProcess();
        stateBeforeTheStart();
        whichOfNoState();
        whichOfNone();
        whichOfAll();
        whichInTheirOrder();
        CHECK.close();
    }

    private static void onOfNoSignal() {
        Run x = running(CHECK, "on: there is no such signal");
        for (int s : new int[] {-1, 3, 200, LEAST_INT, MOST_INT}) {
            x.refuses(INDEX).on(s);
        }
        x.on(0);
        x.on(2);
        x.refuses(INDEX).on(3);
        x.suspend(1, false, NONE);
        x.end(2);
        set(x, 0, 2, 1, 7);
        x.end(0);
        x.gives(TIME).cycle();
        x.gives(RUNS).state(1);
    }

    private static void onTheSameTwice() {
        Run x = running(CHECK, "it waits for a set of signals: the same one twice");
        x.on(2);
        x.on(2);
        x.suspend(1, false, NONE);
        x.suspend(2, false, NONE);
        set(x, 0, 2, 1, 7);
        x.end(0);
        x.gives(TIME).cycle();
        x.gives(RUNS).state(1);
        x.gives(WAITS).state(2);
    }

    private static void onAllSignals() {
        for (int s : new int[] {0, 63, 64, 65, 127, 128, 191, 192, 198, 199}) {
            Run x = new Run(CHECK, "a set of all 200 signals, an event of " + s, 1);
            for (int i = 0; i < 200; i++) {
                x.signal(NUMBER, 1);
            }
            x.process();
            x.process();
            x.drive(0, s);
            x.start();
            for (int i = 0; i < 200; i++) {
                x.on(i);
            }
            x.suspend(1, false, NONE);
            set(x, 0, s, 1, 7);
            x.suspend(0, false, NONE);
            x.gives(TIME).cycle();
            x.gives(RUNS).state(1);
            x.gives(WAITS).state(0);
        }
    }

    private static void onBeforeTheStart() {
        Run x = small(CHECK, "a signal is laid down for the next suspend()");
        x.on(2);
        x.start();
        x.suspend(1, false, NONE);
        x.end(2);
        set(x, 0, 2, 1, 7);
        x.end(0);
        x.gives(TIME).cycle();
        x.gives(RUNS).state(1);
    }

    private static void suspendWithNoSignals() {
        Run x = running(CHECK, "suspend: the signals that are laid down, when there are none");
        x.suspend(1, false, NONE);
        x.suspend(2, true, NONE);
        for (int s = 0; s < 3; s++) {
            set(x, 0, s, 1, ONE);
        }
        x.suspend(0, false, NONE);
        x.gives(TIME).cycle();
        x.gives(2).event(0);
        x.gives(NONE).which(RUNS, 0);
        x.gives(NONE).which(ASKED, 0);
        x.gives(QUIET).cycle();
    }

    private static void signalsAreGoneBehindSuspend() {
        Run x = running(CHECK, "suspend: then none is");
        x.on(2);
        x.suspend(1, false, NONE);
        set(x, 0, 2, 1, 7);
        x.suspend(2, false, NONE);
        x.suspend(0, false, NONE);
        x.gives(TIME).cycle();
        x.gives(RUNS).state(1);
        x.gives(NONE).which(RUNS, 1);
    }

    private static void suspendDelays() {
        Run x = running(CHECK, "suspend: when the delay is below -1");
        for (long delay : new long[] {-2, -3, LEAST_LONG, -LAST_TIME}) {
            x.refuses(ARGUMENT).suspend(0, false, delay);
        }
        x.suspend(0, false, -1);
        x.gives(NONE).next();
        x.suspend(1, false, 0);
        x.gives(0).next();
        x.refuses(ARGUMENT).suspend(2, true, LAST_TIME + 1);
        x.refuses(ARGUMENT).suspend(2, true, MOST_LONG);
        x.suspend(2, true, LAST_TIME);
        x.gives(STEP).cycle();
        x.end(1);
        x.gives(LAST_TIME).next();
    }

    private static void suspendAtALaterTime() {
        Run x = runningAt(CHECK, "suspend: or the time would be above 2^60", 5);
        for (long delay : new long[] {LAST_TIME - 4, LAST_TIME, LAST_TIME + 1, MOST_LONG,
            MOST_LONG - 4}) {
            x.refuses(ARGUMENT).suspend(0, false, delay);
        }
        x.suspend(0, false, LAST_TIME - 5);
        x.gives(LAST_TIME).next();
        x.gives(TIME).cycle();
        x.gives(LAST_TIME).now();
        x.gives(RUNS).state(0);
    }

    private static void suspendAtTheLastTime() {
        Run x = runningAt(CHECK, "suspend: at 2^60 only the next step is left", LAST_TIME);
        x.refuses(ARGUMENT).suspend(0, false, 1);
        x.refuses(ARGUMENT).suspend(0, false, LAST_TIME);
        x.refuses(ARGUMENT).suspend(0, false, -2);
        x.suspend(0, false, 0);
        x.gives(LAST_TIME).next();
        x.gives(STEP).cycle();
        x.suspend(0, false, NONE);
        x.gives(QUIET).cycle();
    }

    private static void suspendForEver() {
        Run x = running(CHECK, "suspend: NONE: for ever");
        x.suspend(0, false, 4);
        x.suspend(1, false, 4);
        x.end(2);
        x.gives(TIME).cycle();
        x.suspend(0, false, NONE);
        x.suspend(1, true, NONE);
        x.gives(NONE).next();
        x.gives(QUIET).cycle();
        x.gives(WAITS).state(0);
        x.gives(WAITS).state(1);
    }

    private static void suspendUntilTheNextStep() {
        Run x = running(CHECK, "suspend: 0: the next step");
        x.suspend(0, false, 0);
        x.suspend(1, true, 0);
        x.suspend(2, false, 1);
        x.gives(STEP).cycle();
        x.gives(0).now();
        x.gives(1).step();
        x.gives(RUNS).state(0);
        x.gives(RUNS).state(1);
        x.gives(WAITS).state(2);
    }

    private static void suspendOfNoProcess() {
        Run x = running(CHECK, "suspend: there is no such process");
        for (int p : new int[] {-1, 3, 64, LEAST_INT, MOST_INT}) {
            x.refuses(INDEX).suspend(p, false, 0);
        }
        x.suspend(0, false, 0);
        x.suspend(2, false, 0);
    }

    private static void suspendWhenItDoesNotRun() {
        Run x = inEachState(CHECK, "suspend: IllegalStateException when it does not run");
        for (int p = 1; p < 4; p++) {
            x.refuses(STATE).suspend(p, false, 0);
            x.refuses(STATE).suspend(p, true, NONE);
            x.refuses(STATE).suspend(p, false, 2);
        }
        x.gives(9).next();
        x.suspend(0, false, 2);
        x.refuses(STATE).suspend(0, false, 1);
        x.gives(3).next();
    }

    private static void suspendBeforeTheStart() {
        Run x = small(CHECK, "suspend: it does not run before the start");
        for (long delay : new long[] {NONE, 0, LAST_TIME}) {
            x.refuses(STATE).suspend(0, false, delay);
        }
        x.gives(NONE).next();
        x.start();
        x.suspend(0, false, 0);
    }

    private static void suspendExceptionsInOrder() {
        Run x = inEachState(CHECK, "suspend: index, then argument, then state");
        x.refuses(INDEX).suspend(4, false, -2);
        x.refuses(INDEX).suspend(-1, false, LAST_TIME + 1);
        for (int p = 1; p < 4; p++) {
            x.refuses(ARGUMENT).suspend(p, false, -2);
            x.refuses(ARGUMENT).suspend(p, false, LAST_TIME);
        }
        Run y = small(CHECK, "suspend: argument before state, before the start");
        y.refuses(ARGUMENT).suspend(0, false, -2);
        y.refuses(ARGUMENT).suspend(0, false, LAST_TIME + 1);
        y.refuses(INDEX).suspend(3, false, 0);
    }

    private static void refusedSuspendLeavesTheSignals() {
        Run x = running(CHECK, "suspend: what throws leaves what is laid down");
        x.suspend(2, false, NONE);
        x.on(0);
        x.on(2);
        lay(x, 1, 7);
        x.refuses(INDEX).suspend(3, false, 0);
        x.refuses(ARGUMENT).suspend(1, false, -2);
        x.refuses(STATE).suspend(2, false, 0);
        x.suspend(1, false, NONE);
        x.gives(0).assign(0, 2, 0, 1, 0, 0);
        x.suspend(0, false, NONE);
        x.gives(TIME).cycle();
        x.gives(RUNS).state(1);
        x.gives(WAITS).state(2);
    }

    private static void endOfOneThatRuns() {
        Run x = running(CHECK, "end: a process that runs ends");
        for (int p = 0; p < 3; p++) {
            x.end(p);
            x.gives(ENDED).state(p);
        }
        x.gives(NONE).which(RUNS, 0);
        x.gives(QUIET).cycle();
    }

    private static void endOfOneThatIsAsked() {
        Run x = inEachState(CHECK, "end: or is ASKED, ends");
        x.gives(9).next();
        x.end(1);
        x.gives(ENDED).state(1);
        x.gives(NONE).next();
        x.end(0);
        x.gives(QUIET).cycle();
    }

    private static void endOfOthers() {
        Run x = inEachState(CHECK, "end: IllegalStateException when it is neither");
        x.refuses(STATE).end(2);
        x.refuses(STATE).end(3);
        x.gives(ENDED).state(2);
        x.gives(WAITS).state(3);
        Run y = small(CHECK, "end: it waits before the start");
        y.refuses(STATE).end(0);
        y.start();
        y.gives(RUNS).state(0);
    }

    private static void endOfNoProcess() {
        Run x = running(CHECK, "end: there is no such process");
        for (int p : new int[] {-1, 3, 64, LEAST_INT, MOST_INT}) {
            x.refuses(INDEX).end(p);
        }
        x.end(2);
        x.gives(ENDED).state(2);
        Run y = small(CHECK, "end: IndexOutOfBoundsException is named first");
        y.refuses(INDEX).end(3);
        y.refuses(INDEX).end(-1);
    }

    private static void endsForEver() {
        Run x = running(CHECK, "or ends for ever");
        x.on(2);
        x.suspend(1, true, 3);
        x.end(2);
        set(x, 0, 2, 1, 7);
        set(x, 0, 2, 3, 8);
        x.end(0);
        x.gives(TIME).cycle();
        x.gives(ASKED).state(1);
        x.end(1);
        x.gives(3).next();
        x.gives(TIME).cycle();
        x.gives(2).event(0);
        for (int p = 0; p < 3; p++) {
            x.gives(ENDED).state(p);
            x.refuses(STATE).end(p);
            x.refuses(STATE).suspend(p, false, 0);
            x.refuses(STATE).answer(p, true);
        }
        x.gives(QUIET).cycle();
    }

    private static void answerOfOneThatIsAsked() {
        Run x = inEachState(CHECK, "answer: if yes, it runs");
        x.answer(1, true);
        x.gives(RUNS).state(1);
        x.refuses(STATE).answer(1, true);
        Run y = inEachState(CHECK, "answer: if no, it waits");
        y.answer(1, false);
        y.gives(WAITS).state(1);
        y.refuses(STATE).answer(1, false);
        y.refuses(STATE).answer(1, true);
    }

    private static void answerOfOthers() {
        Run x = inEachState(CHECK, "answer: IllegalStateException when it is not");
        for (int p : new int[] {0, 2, 3}) {
            x.refuses(STATE).answer(p, true);
            x.refuses(STATE).answer(p, false);
        }
        Run y = small(CHECK, "answer: it is not ASKED before the start");
        y.refuses(STATE).answer(0, true);
        y.refuses(STATE).answer(0, false);
    }

    private static void answerOfNoProcess() {
        Run x = inEachState(CHECK, "answer: there is no such process");
        for (int p : new int[] {-1, 4, 64, LEAST_INT, MOST_INT}) {
            x.refuses(INDEX).answer(p, true);
            x.refuses(INDEX).answer(p, false);
        }
        Run y = small(CHECK, "answer: IndexOutOfBoundsException is named first");
        y.refuses(INDEX).answer(3, true);
    }

    private static void answerNoAndThenAgain() {
        Run x = inEachState(CHECK, "if no, it waits as before");
        x.answer(1, false);
        x.gives(9).next();
        set(x, 0, 0, 2, ZERO);
        x.suspend(0, false, 1);
        x.gives(TIME).cycle();
        x.gives(WAITS).state(1);
        x.suspend(0, false, NONE);
        x.gives(TIME).cycle();
        x.gives(3).now();
        x.gives(ASKED).state(1);
        x.answer(1, false);
        x.gives(9).next();
    }

    private static void answerNoAndThenItsTime() {
        Run x = inEachState(CHECK, "if no, it waits (also till its time)");
        x.answer(1, false);
        set(x, 0, 0, 8, ZERO);
        x.suspend(0, false, NONE);
        x.gives(TIME).cycle();
        x.gives(9).now();
        x.gives(3).marks(0);
        x.gives(RUNS).state(1);
    }

    private static void stateOfNoProcess() {
        Run x = inEachState(CHECK, "state: there is no such process");
        for (int p : new int[] {-1, 4, 64, LEAST_INT, MOST_INT}) {
            x.refuses(INDEX).state(p);
        }
    }

    private static void stateBeforeTheStart() {
        Run x = small(CHECK, "state: WAITS before the start");
        for (int p = 0; p < 3; p++) {
            x.gives(WAITS).state(p);
        }
        x.refuses(INDEX).state(3);
        x.start();
        for (int p = 0; p < 3; p++) {
            x.gives(RUNS).state(p);
        }
    }

    private static void whichOfNoState() {
        Run x = inEachState(CHECK, "which: when there is nothing like that");
        for (int state : new int[] {-1, 4, LEAST_INT, MOST_INT}) {
            x.refuses(ARGUMENT).which(state, 0);
            x.refuses(ARGUMENT).which(state, -1);
            x.refuses(ARGUMENT).which(state, 100);
        }
        int[] due = {0, 3, 1, 2};
        for (int state = RUNS; state <= ENDED; state++) {
            x.gives(due[state]).which(state, 0);
        }
    }

    private static void whichOfNone() {
        Run x = running(CHECK, "which: NONE when there is none such");
        for (int state = WAITS; state <= ENDED; state++) {
            for (int i : new int[] {-1, 0, 1, LEAST_INT, MOST_INT}) {
                x.gives(NONE).which(state, i);
            }
        }
        for (int i : new int[] {-1, 3, LEAST_INT, MOST_INT}) {
            x.gives(NONE).which(RUNS, i);
        }
        x.gives(0).which(RUNS, 0);
        x.gives(2).which(RUNS, 2);
    }

    private static void whichOfAll() {
        Run x = new Run(CHECK, "which: of 64 processes", 1);
        for (int p = 0; p < 64; p++) {
            x.process();
        }
        x.gives(63).which(WAITS, 63);
        x.gives(NONE).which(RUNS, 0);
        x.start();
        for (int p = 0; p < 64; p++) {
            x.gives(p).which(RUNS, p);
        }
        x.gives(NONE).which(RUNS, 64);
        for (int p = 0; p < 64; p++) {
            x.end(63 - p);
        }
        for (int p = 0; p < 64; p++) {
            x.gives(p).which(ENDED, p);
        }
        x.gives(NONE).which(ENDED, 64);
        x.gives(NONE).which(ENDED, -1);
    }

    private static void whichInTheirOrder() {
        Run x = new Run(CHECK, "which: from 0, in the order of their numbers", 1);
        for (int p = 0; p < 6; p++) {
            x.process();
        }
        x.start();
        for (int p : new int[] {5, 1, 3}) {
            x.suspend(p, false, 6 - p);
        }
        x.end(4);
        x.end(2);
        int[] waits = {1, 3, 5, NONE};
        int[] ended = {2, 4, NONE};
        for (int i = 0; i < waits.length; i++) {
            x.gives(waits[i]).which(WAITS, i);
        }
        for (int i = 0; i < ended.length; i++) {
            x.gives(ended[i]).which(ENDED, i);
        }
        x.gives(0).which(RUNS, 0);
        x.gives(NONE).which(RUNS, 1);
    }
}
