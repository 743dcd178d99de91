/** Promises 11 to 14, 16 and 17: on, suspend, end, answer, state, which. */
public final class ProcessTest {
    private static final Check CHECK = new Check("ProcessTest");
    private static final long LAST = 1L << 60;

    public static void main(String[] args) {
        onSignals();
        onManySignals();
        suspendOrdinary();
        suspendWrong();
        suspendFarOff();
        throwingLeavesTheSignals();
        timeBeforeEvent();
        questions();
        answerWrong();
        endings();
        states();
        whichOnes();
        CHECK.close();
    }

    /** Logic signals, all driven by process 0, with their first values ZERO. */
    private static CycleKernel running(int signals, int processes) {
        CycleKernel x = new CycleKernel(10);
        for (int p = 0; p < processes; p++) {
            x.process();
        }
        for (int s = 0; s < signals; s++) {
            x.signal(0, 1);
            x.first(s, 0, 2);
            x.drive(0, s);
        }
        x.start();
        return x;
    }

    private static void set(CycleKernel x, int signal, long delay, int value) {
        x.wave(delay);
        x.put(0, value);
        x.assign(0, signal, 0, 1, 1, 0);
    }

    private static void onSignals() {
        CycleKernel x = running(2, 3);
        for (int s : new int[] {-1, 2, Integer.MAX_VALUE, Integer.MIN_VALUE}) {
            CHECK.isThrown("on(" + s + ")", Check.INDEX, () -> x.on(s));
        }
        x.on(0);
        x.on(0);
        x.suspend(1, false, CycleKernel.NONE);
        x.suspend(2, false, CycleKernel.NONE);
        set(x, 0, 1, 3);
        set(x, 1, 2, 3);
        x.on(1);
        x.suspend(0, false, CycleKernel.NONE);
        x.cycle();
        CHECK.due("1 waited for signal 0", x.state(1), CycleKernel.RUNS);
        CHECK.due("2 waited for none", x.state(2), CycleKernel.WAITS);
        CHECK.due("0 waits for signal 1", x.state(0), CycleKernel.WAITS);
        x.suspend(1, false, CycleKernel.NONE);
        x.cycle();
        CHECK.due("0 runs", x.state(0), CycleKernel.RUNS);
        CHECK.due("1 waits for none now", x.state(1), CycleKernel.WAITS);
    }

    private static void onManySignals() {
        for (int s : new int[] {0, 31, 32, 63, 64, 127, 128, 191, 192, 199}) {
            CycleKernel x = new CycleKernel(10);
            for (int i = 0; i < 200; i++) {
                x.signal(0, 1);
            }
            x.process();
            x.process();
            x.process();
            x.drive(0, s);
            x.on(s);
            x.start();
            set(x, s, 1, 3);
            x.suspend(1, false, CycleKernel.NONE);
            for (int i = 0; i < 200; i++) {
                if (i != s) {
                    x.on(i);
                }
            }
            x.suspend(2, false, CycleKernel.NONE);
            x.suspend(0, false, CycleKernel.NONE);
            x.cycle();
            CHECK.due("it waited for signal " + s, x.state(1), CycleKernel.RUNS);
            CHECK.due("it waited for all but " + s, x.state(2), CycleKernel.WAITS);
            CHECK.due("event(0)", x.event(0), s);
            CHECK.due("event(1)", x.event(1), CycleKernel.NONE);
        }
    }

    private static void suspendOrdinary() {
        CycleKernel x = running(1, 3);
        x.suspend(0, false, 0);
        x.suspend(1, true, 5);
        x.suspend(2, false, CycleKernel.NONE);
        CHECK.due("the next step", x.cycle(), CycleKernel.STEP);
        CHECK.due("0 runs", x.state(0), CycleKernel.RUNS);
        CHECK.due("1 waits", x.state(1), CycleKernel.WAITS);
        x.suspend(0, false, 5);
        CHECK.due("time goes on", x.cycle(), CycleKernel.TIME);
        CHECK.due("now()", x.now(), 5);
        CHECK.due("0 runs at its time", x.state(0), CycleKernel.RUNS);
        CHECK.due("1 runs at its time, not asked", x.state(1), CycleKernel.RUNS);
        CHECK.due("2 waits for ever", x.state(2), CycleKernel.WAITS);
        x.suspend(0, false, CycleKernel.NONE);
        x.suspend(1, false, 3);
        CHECK.due("from NOW on", x.next(), 8);
        x.cycle();
        x.suspend(1, false, CycleKernel.NONE);
        CHECK.due("no time is left from before", x.cycle(), CycleKernel.QUIET);
    }

    private static void suspendWrong() {
        CycleKernel x = running(1, 2);
        x.suspend(1, false, CycleKernel.NONE);
        for (int p : new int[] {-1, 2, Integer.MAX_VALUE}) {
            CHECK.isThrown("suspend(" + p + ")", Check.INDEX, () -> x.suspend(p, false, -2));
        }
        for (long d : new long[] {-2, Long.MIN_VALUE, LAST + 1, Long.MAX_VALUE}) {
            CHECK.isThrown("delay " + d, Check.ARGUMENT, () -> x.suspend(0, false, d));
            CHECK.isThrown("delay " + d + ", it waits", Check.ARGUMENT,
                () -> x.suspend(1, false, d));
        }
        CHECK.isThrown("it waits", Check.STATE, () -> x.suspend(1, false, 3));
        CHECK.due("it waits for ever still", x.next(), CycleKernel.NONE);
        CHECK.due("0 runs still", x.state(0), CycleKernel.RUNS);
        x.end(0);
        CHECK.isThrown("it has ended", Check.STATE, () -> x.suspend(0, false, 3));
        CycleKernel y = new CycleKernel(1);
        y.process();
        CHECK.isThrown("before the start", Check.STATE, () -> y.suspend(0, false, 1));
        CHECK.isThrown("before the start", Check.ARGUMENT, () -> y.suspend(0, false, -2));
    }

    private static void suspendFarOff() {
        CycleKernel x = running(0, 1);
        x.suspend(0, false, 1);
        x.cycle();
        for (long d : new long[] {LAST, Long.MAX_VALUE, Long.MAX_VALUE - 1}) {
            CHECK.isThrown("delay " + d, Check.ARGUMENT, () -> x.suspend(0, false, d));
        }
        x.suspend(0, false, LAST - 1);
        CHECK.due("next()", x.next(), LAST);
        CHECK.due("cycle()", x.cycle(), CycleKernel.TIME);
        CHECK.due("now()", x.now(), LAST);
        CHECK.isThrown("no time is behind", Check.ARGUMENT, () -> x.suspend(0, false, 1));
        x.suspend(0, false, 0);
        CHECK.due("a step", x.cycle(), CycleKernel.STEP);
    }

    private static void throwingLeavesTheSignals() {
        CycleKernel x = running(1, 2);
        set(x, 0, 1, 3);
        x.on(0);
        CHECK.isThrown("no such process", Check.INDEX, () -> x.suspend(2, false, 1));
        CHECK.isThrown("no such delay", Check.ARGUMENT, () -> x.suspend(0, false, -2));
        x.suspend(1, false, CycleKernel.NONE);
        x.on(0);
        CHECK.isThrown("it waits", Check.STATE, () -> x.suspend(1, true, 1));
        x.wave(4);
        x.suspend(0, false, CycleKernel.NONE);
        x.cycle();
        CHECK.due("1 runs", x.state(1), CycleKernel.RUNS);
        CHECK.due("0 runs", x.state(0), CycleKernel.RUNS);
        CHECK.due("suspend leaves the values", x.assign(0, 0, 0, 1, 1, 0), 0);
        x.on(0);
        set(x, 0, 1, 2);
        x.suspend(1, false, CycleKernel.NONE);
        x.suspend(0, false, CycleKernel.NONE);
        x.cycle();
        CHECK.due("assign leaves the signals", x.state(1), CycleKernel.RUNS);
    }

    private static void timeBeforeEvent() {
        CycleKernel x = running(1, 3);
        set(x, 0, 4, 3);
        x.on(0);
        x.suspend(0, true, 4);
        x.on(0);
        x.suspend(1, true, 5);
        x.on(0);
        x.suspend(2, false, 5);
        x.cycle();
        CHECK.due("its time and an event: it runs", x.state(0), CycleKernel.RUNS);
        CHECK.due("a question: it is asked", x.state(1), CycleKernel.ASKED);
        CHECK.due("no question: it runs", x.state(2), CycleKernel.RUNS);
    }

    private static void questions() {
        CycleKernel x = running(1, 3);
        set(x, 0, 1, 3);
        x.suspend(0, false, 2);
        x.on(0);
        x.suspend(1, true, 9);
        x.on(0);
        x.suspend(2, true, CycleKernel.NONE);
        x.cycle();
        CHECK.due("1 is asked", x.state(1), CycleKernel.ASKED);
        CHECK.due("2 is asked", x.state(2), CycleKernel.ASKED);
        CHECK.due("0 waits till its time", x.state(0), CycleKernel.WAITS);
        CHECK.isThrown("cycle() while asked", Check.STATE, x::cycle);
        CHECK.isThrown("suspend while asked", Check.STATE, () -> x.suspend(1, true, 1));
        x.answer(1, false);
        CHECK.isThrown("cycle() while one is asked", Check.STATE, x::cycle);
        x.answer(2, false);
        CHECK.due("1 waits as before", x.state(1), CycleKernel.WAITS);
        x.cycle();
        CHECK.due("no event: not asked", x.state(1), CycleKernel.WAITS);
        set(x, 0, 1, 2);
        x.suspend(0, false, CycleKernel.NONE);
        x.cycle();
        CHECK.due("asked again", x.state(1), CycleKernel.ASKED);
        CHECK.due("asked again", x.state(2), CycleKernel.ASKED);
        CHECK.due("the time of one that is asked", x.next(), 9);
        x.answer(1, false);
        x.answer(2, true);
        CHECK.due("yes: it runs", x.state(2), CycleKernel.RUNS);
        x.suspend(2, true, CycleKernel.NONE);
        CHECK.due("cycle()", x.cycle(), CycleKernel.TIME);
        CHECK.due("also till its time", x.now(), 9);
        CHECK.due("it runs", x.state(1), CycleKernel.RUNS);
    }

    private static void answerWrong() {
        CycleKernel x = running(1, 3);
        for (int p : new int[] {-1, 3, Integer.MIN_VALUE}) {
            CHECK.isThrown("answer(" + p + ")", Check.INDEX, () -> x.answer(p, true));
        }
        CHECK.isThrown("it runs", Check.STATE, () -> x.answer(0, false));
        CHECK.due("it runs still", x.state(0), CycleKernel.RUNS);
        x.suspend(0, true, 1);
        CHECK.isThrown("it waits", Check.STATE, () -> x.answer(0, true));
        CHECK.due("it waits still", x.state(0), CycleKernel.WAITS);
        x.end(1);
        CHECK.isThrown("it has ended", Check.STATE, () -> x.answer(1, true));
        CHECK.due("it has ended still", x.state(1), CycleKernel.ENDED);
        CycleKernel y = new CycleKernel(1);
        y.process();
        CHECK.isThrown("before the start", Check.STATE, () -> y.answer(0, true));
    }

    private static void endings() {
        CycleKernel x = running(1, 3);
        for (int p : new int[] {-1, 3, Integer.MAX_VALUE}) {
            CHECK.isThrown("end(" + p + ")", Check.INDEX, () -> x.end(p));
        }
        set(x, 0, 1, 3);
        x.wave(6);
        x.put(0, 2);
        x.assign(0, 0, 0, 1, 1, 0);
        x.end(0);
        x.on(0);
        x.suspend(1, true, 4);
        CHECK.isThrown("it waits", Check.STATE, () -> x.end(1));
        CHECK.isThrown("it has ended", Check.STATE, () -> x.end(0));
        x.suspend(2, false, CycleKernel.NONE);
        CHECK.due("an ended one's transactions", x.cycle(), CycleKernel.TIME);
        CHECK.due("value", x.value(0, 0, false), 3);
        CHECK.due("it is asked", x.state(1), CycleKernel.ASKED);
        x.end(1);
        CHECK.due("it has ended", x.state(1), CycleKernel.ENDED);
        CHECK.due("its time does not count", x.next(), 6);
        x.cycle();
        CHECK.due("it stays ended", x.state(1), CycleKernel.ENDED);
        CHECK.due("so does this", x.state(0), CycleKernel.ENDED);
        CHECK.due("value", x.value(0, 0, false), 2);
        CHECK.due("cycle()", x.cycle(), CycleKernel.QUIET);
        CycleKernel y = new CycleKernel(1);
        y.process();
        CHECK.isThrown("before the start", Check.STATE, () -> y.end(0));
    }

    private static void states() {
        CycleKernel x = new CycleKernel(1);
        x.process();
        CHECK.due("before the start", x.state(0), CycleKernel.WAITS);
        for (int p : new int[] {-1, 1, Integer.MAX_VALUE, Integer.MIN_VALUE}) {
            CHECK.isThrown("state(" + p + ")", Check.INDEX, () -> x.state(p));
        }
        x.start();
        CHECK.due("behind it", x.state(0), CycleKernel.RUNS);
        x.suspend(0, false, CycleKernel.NONE);
        CHECK.due("suspended", x.state(0), CycleKernel.WAITS);
    }

    private static void whichOnes() {
        CycleKernel x = new CycleKernel(5);
        x.signal(0, 1);
        for (int p = 0; p < 6; p++) {
            x.process();
        }
        x.drive(4, 0);
        CHECK.due("before the start", x.which(CycleKernel.WAITS, 5), 5);
        CHECK.due("before the start", x.which(CycleKernel.RUNS, 0), CycleKernel.NONE);
        for (int s : new int[] {-1, 4, Integer.MAX_VALUE, Integer.MIN_VALUE}) {
            CHECK.isThrown("which(" + s + ", 0)", Check.ARGUMENT, () -> x.which(s, 0));
            CHECK.isThrown("which(" + s + ", -1)", Check.ARGUMENT, () -> x.which(s, -1));
        }
        x.start();
        x.wave(0);
        x.put(0, 3);
        x.assign(4, 0, 0, 1, 0, 0);
        int[] order = {5, 3, 1};
        for (int p : order) {
            x.on(0);
            x.suspend(p, p != 3, CycleKernel.NONE);
        }
        x.end(2);
        x.suspend(4, false, CycleKernel.NONE);
        x.suspend(0, false, 1);
        x.cycle();
        whichIs(x, CycleKernel.RUNS, 3);
        whichIs(x, CycleKernel.WAITS, 0, 4);
        whichIs(x, CycleKernel.ASKED, 1, 5);
        whichIs(x, CycleKernel.ENDED, 2);
    }

    private static void whichIs(CycleKernel x, int state, int... want) {
        for (int i = 0; i < want.length; i++) {
            CHECK.due("which(" + state + ", " + i + ")", x.which(state, i), want[i]);
        }
        for (int i : new int[] {-1, want.length, Integer.MAX_VALUE, Integer.MIN_VALUE}) {
            CHECK.due("which(" + state + ", " + i + ")", x.which(state, i), CycleKernel.NONE);
        }
    }
}
