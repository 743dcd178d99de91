/** Promises 15 and 18 to 23: cycle, value, marks, event, now, step, next. */
public final class CycleTest {
    private static final Check CHECK = new Check("CycleTest");
    private static final String NAMES = "UX01ZWLH-";

    /** What two drivers make together, a row for each value of the first. */
    private static final String[] TWO_TOGETHER = {
        "UUUUUUUUU",
        "UXXXXXXXX",
        "UX0X0000X",
        "UXX11111X",
        "UX01ZWLHX",
        "UX01WWWWX",
        "UX01LWLWX",
        "UX01HWWHX",
        "UXXXXXXXX",
    };

    public static void main(String[] args) {
        cycleWrong();
        twoTogether();
        threeTogether();
        oneAlone();
        timeAndSteps();
        limitChangesNothing();
        quietChangesNothing();
        activeWithoutEvent();
        marksGoAway();
        lastValues();
        wholeRowsLastValue();
        numbers();
        manyDriversActive();
        eventsInOrder();
        nextTimes();
        valueWrong();
        CHECK.close();
    }

    private static CycleKernel driven(int is, int n, int drivers) {
        CycleKernel x = new CycleKernel(3);
        x.signal(is, n);
        for (int p = 0; p < drivers; p++) {
            x.process();
            x.drive(p, 0);
        }
        return x;
    }

    private static void set(CycleKernel x, int process, int signal, long delay, int value) {
        x.wave(delay);
        x.put(0, value);
        x.assign(process, signal, 0, 1, 1, 0);
    }

    private static void cycleWrong() {
        CycleKernel x = driven(0, 1, 2);
        CHECK.isThrown("before the start", Check.STATE, x::cycle);
        x.start();
        CHECK.isThrown("both run", Check.STATE, x::cycle);
        x.suspend(0, false, 0);
        CHECK.isThrown("one runs", Check.STATE, x::cycle);
        CHECK.due("step()", x.step(), 0);
        x.end(1);
        CHECK.due("none runs", x.cycle(), CycleKernel.STEP);
        CHECK.due("step()", x.step(), 1);
        CycleKernel y = driven(0, 1, 2);
        y.start();
        y.suspend(1, false, 0);
        CHECK.isThrown("the other one runs", Check.STATE, y::cycle);
        CHECK.due("it waits", y.state(1), CycleKernel.WAITS);
    }

    private static void twoTogether() {
        for (int a = 0; a < 9; a++) {
            for (int b = 0; b < 9; b++) {
                CycleKernel x = driven(0, 1, 2);
                x.start();
                set(x, 0, 0, 1, a);
                set(x, 1, 0, 1, b);
                x.end(0);
                x.end(1);
                x.cycle();
                int want = NAMES.indexOf(TWO_TOGETHER[a].charAt(b));
                CHECK.due(NAMES.charAt(a) + " and " + NAMES.charAt(b), x.value(0, 0, false), want);
                CHECK.due("marks", x.marks(0), want == 0 ? 1 : 3);
            }
        }
    }

    private static void threeTogether() {
        String[] cases = {"ZZZ Z", "ZLZ L", "LZL L", "HLZ W", "LHH W", "WLL W", "LL0 0", "H1L 1",
            "01Z X", "10U U", "ZZ- X", "LLX X", "U-X U", "Z-U U", "HHH H", "ZZW W", "0LH 0"};
        for (String c : cases) {
            CycleKernel x = driven(1, 3, 3);
            x.start();
            for (int p = 0; p < 3; p++) {
                x.wave(1);
                for (int k = 0; k < 3; k++) {
                    x.put(k, NAMES.indexOf(c.charAt((p + k) % 3)));
                }
                x.assign(p, 0, 0, 3, 0, 0);
                x.end(p);
            }
            x.cycle();
            for (int k = 0; k < 3; k++) {
                CHECK.due(c, x.value(0, k, false), NAMES.indexOf(c.charAt(4)));
            }
        }
    }

    private static void oneAlone() {
        for (int v = 0; v < 9; v++) {
            CycleKernel x = driven(0, 1, 1);
            x.start();
            set(x, 0, 0, 0, v);
            x.end(0);
            CHECK.due("cycle()", x.cycle(), CycleKernel.STEP);
            CHECK.due("alone " + v, x.value(0, 0, false), v == 8 ? 1 : v);
        }
    }

    private static void timeAndSteps() {
        CycleKernel x = driven(0, 1, 1);
        x.start();
        x.suspend(0, false, 0);
        CHECK.due("cycle()", x.cycle(), CycleKernel.STEP);
        CHECK.due("step()", x.step(), 1);
        set(x, 0, 0, 0, 3);
        x.suspend(0, false, 7);
        CHECK.due("a transaction at NOW", x.cycle(), CycleKernel.STEP);
        CHECK.due("step()", x.step(), 2);
        CHECK.due("now()", x.now(), 0);
        CHECK.due("it waits", x.state(0), CycleKernel.WAITS);
        CHECK.due("cycle()", x.cycle(), CycleKernel.TIME);
        CHECK.due("step()", x.step(), 0);
        CHECK.due("now()", x.now(), 7);
        x.suspend(0, false, 0);
        CHECK.due("cycle()", x.cycle(), CycleKernel.STEP);
        CHECK.due("step()", x.step(), 1);
        CHECK.due("now()", x.now(), 7);
    }

    private static void limitChangesNothing() {
        CycleKernel x = driven(0, 1, 1);
        x.start();
        for (int i = 0; i < 3; i++) {
            set(x, 0, 0, 0, 2 + i % 2);
            x.suspend(0, false, 0);
            CHECK.due("cycle()", x.cycle(), CycleKernel.STEP);
        }
        set(x, 0, 0, 0, 3);
        x.suspend(0, false, 0);
        for (int i = 0; i < 2; i++) {
            CHECK.due("cycle()", x.cycle(), CycleKernel.LIMIT);
            CHECK.due("step()", x.step(), 3);
            CHECK.due("now()", x.now(), 0);
            CHECK.due("next()", x.next(), 0);
            CHECK.due("marks(0)", x.marks(0), 3);
            CHECK.due("event(0)", x.event(0), 0);
            CHECK.due("value", x.value(0, 0, false), 2);
            CHECK.due("last value", x.value(0, 0, true), 3);
            CHECK.due("pending", x.pending(0, 0, 0), 1);
            CHECK.due("state(0)", x.state(0), CycleKernel.WAITS);
        }
    }

    private static void quietChangesNothing() {
        CycleKernel x = driven(0, 1, 1);
        x.start();
        set(x, 0, 0, 4, 3);
        x.suspend(0, false, CycleKernel.NONE);
        CHECK.due("cycle()", x.cycle(), CycleKernel.TIME);
        for (int i = 0; i < 2; i++) {
            CHECK.due("cycle()", x.cycle(), CycleKernel.QUIET);
            CHECK.due("now()", x.now(), 4);
            CHECK.due("step()", x.step(), 0);
            CHECK.due("next()", x.next(), CycleKernel.NONE);
            CHECK.due("marks(0)", x.marks(0), 3);
            CHECK.due("event(0)", x.event(0), 0);
            CHECK.due("last value", x.value(0, 0, true), 0);
        }
    }

    private static void activeWithoutEvent() {
        CycleKernel x = driven(0, 1, 2);
        x.first(0, 0, 2);
        x.start();
        set(x, 0, 0, 1, 2);
        set(x, 1, 0, 2, 4);
        set(x, 0, 0, 3, 3);
        x.on(0);
        x.suspend(0, false, CycleKernel.NONE);
        x.on(0);
        x.suspend(1, true, CycleKernel.NONE);
        for (int t = 1; t <= 2; t++) {
            CHECK.due("cycle()", x.cycle(), CycleKernel.TIME);
            CHECK.due("marks(0)", x.marks(0), 1);
            CHECK.due("event(0)", x.event(0), CycleKernel.NONE);
            CHECK.due("it waits", x.state(0), CycleKernel.WAITS);
            CHECK.due("it is not asked", x.state(1), CycleKernel.WAITS);
        }
        x.cycle();
        CHECK.due("marks(0)", x.marks(0), 3);
        CHECK.due("it runs", x.state(0), CycleKernel.RUNS);
        CHECK.due("it is asked", x.state(1), CycleKernel.ASKED);
    }

    private static void marksGoAway() {
        CycleKernel x = driven(0, 1, 1);
        x.start();
        set(x, 0, 0, 1, 3);
        x.suspend(0, false, 2);
        x.cycle();
        CHECK.due("marks(0)", x.marks(0), 3);
        x.cycle();
        CHECK.due("marks(0)", x.marks(0), 0);
        CHECK.due("event(0)", x.event(0), CycleKernel.NONE);
        set(x, 0, 0, 0, 3);
        x.suspend(0, false, 1);
        x.cycle();
        CHECK.due("marks(0)", x.marks(0), 1);
        x.cycle();
        CHECK.due("marks(0)", x.marks(0), 0);
    }

    private static void lastValues() {
        CycleKernel x = driven(0, 1, 1);
        x.first(0, 0, 2);
        x.start();
        int[] values = {3, 3, 4, 2};
        int[] lasts = {2, 2, 3, 4};
        for (int i = 0; i < values.length; i++) {
            set(x, 0, 0, 1, values[i]);
            x.suspend(0, false, 1);
            x.cycle();
            CHECK.due("value", x.value(0, 0, false), values[i]);
            CHECK.due("last value", x.value(0, 0, true), lasts[i]);
        }
    }

    private static void wholeRowsLastValue() {
        CycleKernel x = driven(1, 3, 1);
        x.start();
        x.wave(1);
        x.put(0, 3);
        x.put(1, 3);
        x.assign(0, 0, 0, 2, 0, 0);
        x.wave(2);
        x.put(0, 2);
        x.assign(0, 0, 0, 1, 1, 0);
        x.end(0);
        x.cycle();
        int[][] first = {{3, 0}, {3, 0}, {0, 0}};
        rowIs(x, first);
        x.cycle();
        int[][] second = {{2, 3}, {3, 3}, {0, 0}};
        rowIs(x, second);
        CHECK.due("marks(0)", x.marks(0), 3);
    }

    private static void rowIs(CycleKernel x, int[][] want) {
        for (int k = 0; k < want.length; k++) {
            CHECK.due("value " + k, x.value(0, k, false), want[k][0]);
            CHECK.due("last value " + k, x.value(0, k, true), want[k][1]);
        }
    }

    private static void numbers() {
        CycleKernel x = driven(2, 1, 1);
        x.first(0, 0, 8);
        x.start();
        CHECK.due("value", x.value(0, 0, false), 8);
        int[] values = {Integer.MIN_VALUE, Integer.MAX_VALUE, -1, 8, 0};
        int last = 8;
        for (int v : values) {
            set(x, 0, 0, 3, v);
            x.suspend(0, false, 3);
            x.cycle();
            CHECK.due("value", x.value(0, 0, false), v);
            CHECK.due("last value", x.value(0, 0, true), last);
            CHECK.due("marks(0)", x.marks(0), 3);
            last = v;
        }
    }

    private static void manyDriversActive() {
        CycleKernel x = driven(0, 1, 3);
        x.first(0, 0, 4);
        x.start();
        set(x, 2, 0, 1, 6);
        set(x, 0, 0, 2, 7);
        set(x, 1, 0, 3, 3);
        for (int p = 0; p < 3; p++) {
            x.end(p);
        }
        int[] values = {6, 5, 3};
        int[] lasts = {4, 6, 5};
        for (int i = 0; i < 3; i++) {
            x.cycle();
            CHECK.due("value at " + x.now(), x.value(0, 0, false), values[i]);
            CHECK.due("last value", x.value(0, 0, true), lasts[i]);
        }
    }

    private static void eventsInOrder() {
        CycleKernel x = new CycleKernel(5);
        x.process();
        for (int s = 0; s < 70; s++) {
            x.signal(s % 2 == 0 ? 0 : 2, 1);
            x.drive(0, s);
        }
        x.start();
        CHECK.due("event(0) at the start", x.event(0), CycleKernel.NONE);
        int[] changed = {69, 3, 64, 20};
        for (int s : changed) {
            set(x, 0, s, 2, 4);
        }
        set(x, 0, 21, 2, 0);
        x.end(0);
        x.cycle();
        int[] want = {3, 20, 64, 69};
        for (int i = 0; i < 4; i++) {
            CHECK.due("event(" + i + ")", x.event(i), want[i]);
            CHECK.due("marks", x.marks(want[i]), 3);
        }
        for (int i : new int[] {-1, 4, Integer.MAX_VALUE, Integer.MIN_VALUE}) {
            CHECK.due("event(" + i + ")", x.event(i), CycleKernel.NONE);
        }
        CHECK.due("active alone", x.marks(21), 1);
        CHECK.due("neither", x.marks(22), 0);
    }

    private static void nextTimes() {
        CycleKernel x = driven(0, 1, 3);
        CHECK.due("before the start", x.next(), CycleKernel.NONE);
        x.start();
        CHECK.due("behind it", x.next(), CycleKernel.NONE);
        set(x, 1, 0, 9, 3);
        CHECK.due("a transaction", x.next(), 9);
        set(x, 0, 0, 12, 3);
        CHECK.due("a later one", x.next(), 9);
        x.on(0);
        x.suspend(2, true, 10);
        CHECK.due("a later wait", x.next(), 9);
        x.suspend(0, false, 5);
        CHECK.due("an earlier wait", x.next(), 5);
        x.suspend(1, false, CycleKernel.NONE);
        CHECK.due("a wait for ever", x.next(), 5);
        x.cycle();
        CHECK.due("it runs: its time is gone", x.next(), 9);
        x.end(0);
        x.cycle();
        CHECK.due("2 does not wait for this", x.marks(0), 1);
        CHECK.due("its time", x.next(), 10);
        x.cycle();
        CHECK.due("the last", x.next(), 12);
        x.suspend(2, false, 0);
        CHECK.due("the next step", x.next(), 10);
        x.cycle();
        x.end(2);
        x.cycle();
        CHECK.due("now()", x.now(), 12);
        CHECK.due("none", x.next(), CycleKernel.NONE);
    }

    private static void valueWrong() {
        CycleKernel x = driven(1, 2, 1);
        int[][] wrong = {{-1, 0}, {1, 0}, {0, -1}, {0, 2}, {0, Integer.MAX_VALUE},
            {Integer.MAX_VALUE, 0}, {Integer.MIN_VALUE, 0}, {0, Integer.MIN_VALUE}};
        for (int[] w : wrong) {
            CHECK.isThrown("value(" + w[0] + ", " + w[1] + ", false)", Check.INDEX,
                () -> x.value(w[0], w[1], false));
            CHECK.isThrown("value(" + w[0] + ", " + w[1] + ", true)", Check.INDEX,
                () -> x.value(w[0], w[1], true));
        }
        for (int s : new int[] {-1, 1, Integer.MAX_VALUE, Integer.MIN_VALUE}) {
            CHECK.isThrown("marks(" + s + ")", Check.INDEX, () -> x.marks(s));
        }
    }
}
