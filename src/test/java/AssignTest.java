/** Promises 7 to 10, 24 and 25: wave, put, drop, assign, pending, projected. */
public final class AssignTest {
    private static final Check CHECK = new Check("AssignTest");
    private static final long LAST = 1L << 60;

    public static void main(String[] args) {
        waves();
        waveIsZeroAgain();
        puts();
        drops();
        assignElements();
        assignIndexes();
        assignStates();
        assignArguments();
        assignTimes();
        assignTooMany();
        exceptionsInOrder();
        modeOne();
        modeZero();
        modeTwo();
        keptForTheSameValue();
        elementsByThemselves();
        countsOverElements();
        pendings();
        projections();
        CHECK.close();
    }

    /** Signals: 0 LOGIC, 1 ROW of 4, 2 NUMBER; processes 0 (drives all) and 1 (drives none). */
    private static CycleKernel running() {
        CycleKernel x = new CycleKernel(10);
        x.signal(0, 1);
        x.signal(1, 4);
        x.signal(2, 1);
        x.process();
        x.process();
        x.drive(0, 0);
        x.drive(0, 1);
        x.drive(0, 2);
        x.start();
        return x;
    }

    /** Lays down pairs of a delay and a value of element 0. */
    private static void lay(CycleKernel x, long... pairs) {
        for (int i = 0; i < pairs.length; i += 2) {
            x.wave(pairs[i]);
            x.put(0, (int) pairs[i + 1]);
        }
    }

    private static int number(CycleKernel x, int mode, long limit, long... pairs) {
        lay(x, pairs);
        return x.assign(0, 2, 0, 1, mode, limit);
    }

    /** The number's row, as what its driver gives at the times 0 to 12. */
    private static void rowIs(CycleKernel x, String what, int pending, int... values) {
        CHECK.due(what + ": pending", x.pending(0, 2, 0), pending);
        for (int t = 0; t < values.length; t++) {
            CHECK.due(what + ": projected at " + t, x.projected(0, 2, 0, t), values[t]);
        }
    }

    private static void waves() {
        CycleKernel x = running();
        for (long d : new long[] {-1, Long.MIN_VALUE, LAST + 1, Long.MAX_VALUE}) {
            CHECK.isThrown("wave(" + d + ")", Check.ARGUMENT, () -> x.wave(d));
        }
        CHECK.isThrown("no wave was laid down", Check.STATE, () -> x.put(0, 0));
        for (int i = 0; i < 15; i++) {
            x.wave(i);
        }
        x.wave(LAST);
        CHECK.isThrown("wave 17", Check.STATE, () -> x.wave(20));
        CHECK.isThrown("wave 17, below 0", Check.ARGUMENT, () -> x.wave(-1));
        CHECK.isThrown("wave 17, above 2^60", Check.ARGUMENT, () -> x.wave(LAST + 1));
        CHECK.due("all 16 are assigned", x.assign(0, 0, 0, 1, 1, 0), 0);
        CHECK.due("16 are pending", x.pending(0, 0, 0), 16);
        CycleKernel y = new CycleKernel(1);
        y.wave(0);
        y.put(0, 7);
        y.signal(2, 1);
        y.process();
        y.drive(0, 0);
        y.start();
        CHECK.due("laid down before the start", y.assign(0, 0, 0, 1, 0, 0), 0);
        CHECK.due("laid down before the start", y.projected(0, 0, 0, 0), 7);
    }

    private static void waveIsZeroAgain() {
        CycleKernel x = running();
        x.wave(1);
        for (int k = 0; k < 64; k++) {
            x.put(k, 3);
        }
        x.drop();
        x.wave(1);
        x.assign(0, 1, 0, 4, 1, 0);
        CHECK.due("zero again behind a drop", x.projected(0, 1, 0, 1), 0);
        CHECK.due("zero again behind a drop", x.projected(0, 1, 3, 1), 0);
        x.wave(1);
        x.put(3, 3);
        x.assign(0, 1, 0, 4, 1, 0);
        x.wave(2);
        x.assign(0, 1, 0, 4, 1, 0);
        CHECK.due("zero again behind an assignment", x.projected(0, 1, 3, 2), 0);
        CHECK.due("the earlier one", x.projected(0, 1, 3, 1), 3);
    }

    private static void puts() {
        CycleKernel x = running();
        CHECK.isThrown("put(0, 1) with nothing laid down", Check.STATE, () -> x.put(0, 1));
        CHECK.isThrown("put(-1, 1) with nothing laid down", Check.INDEX, () -> x.put(-1, 1));
        x.wave(1);
        for (int k : new int[] {-1, 64, Integer.MAX_VALUE, Integer.MIN_VALUE}) {
            CHECK.isThrown("put(" + k + ", 1)", Check.INDEX, () -> x.put(k, 1));
        }
        x.put(63, Integer.MAX_VALUE);
        x.put(1, 4);
        x.put(1, 5);
        x.wave(2);
        x.put(1, 6);
        x.put(0, 7);
        x.assign(0, 1, 2, 2, 1, 0);
        CHECK.due("the first value's element 0", x.projected(0, 1, 2, 1), 0);
        CHECK.due("the first value's element 1", x.projected(0, 1, 3, 1), 5);
        CHECK.due("the latest value's element 0", x.projected(0, 1, 2, 2), 7);
        CHECK.due("the latest value's element 1", x.projected(0, 1, 3, 2), 6);
        CHECK.due("no other element", x.pending(0, 1, 1), 0);
        CHECK.isThrown("put(0, 1) behind the assignment", Check.STATE, () -> x.put(0, 1));
    }

    private static void drops() {
        CycleKernel x = running();
        x.drop();
        x.wave(3);
        x.wave(4);
        x.on(0);
        x.drop();
        CHECK.isThrown("nothing to assign", Check.STATE, () -> x.assign(0, 2, 0, 1, 0, 0));
        lay(x, 1, 3);
        x.assign(0, 0, 0, 1, 0, 0);
        x.suspend(0, false, CycleKernel.NONE);
        x.end(1);
        CHECK.due("cycle()", x.cycle(), CycleKernel.TIME);
        CHECK.due("the signal has an event", x.marks(0), 3);
        CHECK.due("no signal was laid down", x.state(0), CycleKernel.WAITS);
    }

    private static void assignElements() {
        CycleKernel x = running();
        x.wave(0);
        x.put(0, 2);
        x.put(1, 3);
        CHECK.due("assign(0, 1, 1, 2)", x.assign(0, 1, 1, 2, 0, 0), 0);
        int[] want = {0, 2, 3, 0};
        for (int k = 0; k < 4; k++) {
            CHECK.due("projected " + k, x.projected(0, 1, k, 0), want[k]);
        }
        CHECK.isThrown("nothing is laid down", Check.STATE, () -> x.assign(0, 1, 1, 2, 0, 0));
        x.wave(0);
        x.put(1, 99);
        CHECK.due("only n elements are looked at", x.assign(0, 1, 3, 1, 1, 0), 0);
        x.wave(0);
        x.put(0, Integer.MIN_VALUE);
        x.assign(0, 2, 0, 1, 1, 0);
        CHECK.due("any number", x.projected(0, 2, 0, 0), Integer.MIN_VALUE);
    }

    private static void assignIndexes() {
        CycleKernel x = running();
        lay(x, 1, 3);
        int[][] wrong = {{-1, 1, 0, 1}, {2, 1, 0, 1}, {0, -1, 0, 1}, {0, 3, 0, 1}, {0, 1, -1, 1},
            {0, 1, 4, 1}, {0, 1, 0, 0}, {0, 1, 0, -1}, {0, 1, 0, 5}, {0, 1, 3, 2}, {0, 0, 0, 2},
            {0, 1, 1, Integer.MAX_VALUE}, {0, 1, Integer.MAX_VALUE, 1},
            {0, 1, Integer.MAX_VALUE, Integer.MAX_VALUE}, {0, 1, Integer.MIN_VALUE, 1},
            {0, 1, 0, Integer.MIN_VALUE}, {0, 1, 4, 0}, {0, 1, 5, -1}, {0, 1, -1, 5}};
        for (int[] w : wrong) {
            CHECK.isThrown("assign(" + w[0] + ", " + w[1] + ", " + w[2] + ", " + w[3] + ")",
                Check.INDEX, () -> x.assign(w[0], w[1], w[2], w[3], 0, 0));
        }
        CHECK.due("it is laid down still", x.assign(0, 1, 0, 4, 0, 0), 0);
        CHECK.due("projected(0, 1, 0, 1)", x.projected(0, 1, 0, 1), 3);
    }

    private static void assignStates() {
        CycleKernel x = running();
        CHECK.isThrown("nothing is laid down", Check.STATE, () -> x.assign(0, 0, 0, 1, 0, 0));
        lay(x, 1, 3);
        CHECK.isThrown("it does not drive", Check.STATE, () -> x.assign(1, 0, 0, 1, 0, 0));
        x.suspend(0, false, CycleKernel.NONE);
        CHECK.isThrown("it waits", Check.STATE, () -> x.assign(0, 0, 0, 1, 0, 0));
        CycleKernel y = running();
        lay(y, 1, 3);
        y.end(0);
        CHECK.isThrown("it has ended", Check.STATE, () -> y.assign(0, 0, 0, 1, 0, 0));
        CycleKernel z = new CycleKernel(1);
        z.signal(0, 1);
        z.process();
        z.drive(0, 0);
        lay(z, 1, 3);
        CHECK.isThrown("before the start", Check.STATE, () -> z.assign(0, 0, 0, 1, 0, 0));
        z.start();
        z.assign(0, 0, 0, 1, 0, 0);
        lay(z, 2, 2);
        z.on(0);
        z.suspend(0, true, CycleKernel.NONE);
        z.cycle();
        CHECK.due("it is asked", z.state(0), CycleKernel.ASKED);
        CHECK.isThrown("it is asked", Check.STATE, () -> z.assign(0, 0, 0, 1, 0, 0));
        z.answer(0, true);
        CHECK.due("it runs", z.assign(0, 0, 0, 1, 0, 0), 0);
    }

    private static void assignArguments() {
        CycleKernel x = running();
        lay(x, 5, 3, 7, 2);
        for (int mode : new int[] {-1, 3, Integer.MIN_VALUE, Integer.MAX_VALUE}) {
            CHECK.isThrown("mode " + mode, Check.ARGUMENT, () -> x.assign(0, 0, 0, 1, mode, 0));
        }
        for (long limit : new long[] {-1, 6, 7, Long.MIN_VALUE, Long.MAX_VALUE}) {
            CHECK.isThrown("mode 2, limit " + limit, Check.ARGUMENT,
                () -> x.assign(0, 0, 0, 1, 2, limit));
        }
        CHECK.due("no row has changed", x.pending(0, 0, 0), 0);
        CHECK.due("mode 2, limit 5", x.assign(0, 0, 0, 1, 2, 5), 0);
        lay(x, 5, 3);
        CHECK.due("mode 0, any limit", x.assign(0, 0, 0, 1, 0, Long.MIN_VALUE), 2);
        lay(x, 5, 3);
        CHECK.due("mode 1, any limit", x.assign(0, 0, 0, 1, 1, Long.MAX_VALUE), 1);
        for (int v : new int[] {-1, 9, Integer.MIN_VALUE, Integer.MAX_VALUE}) {
            lay(x, 1, 3, 2, v);
            CHECK.isThrown("logic " + v, Check.ARGUMENT, () -> x.assign(0, 0, 0, 1, 1, 0));
            x.drop();
            lay(x, 1, v, 2, 3);
            CHECK.isThrown("logic " + v + " first", Check.ARGUMENT,
                () -> x.assign(0, 0, 0, 1, 1, 0));
            x.drop();
            lay(x, 1, 3, 2, 0);
            x.put(3, v);
            CHECK.isThrown("a row " + v, Check.ARGUMENT, () -> x.assign(0, 1, 0, 4, 1, 0));
            CHECK.due("fewer elements", x.assign(0, 1, 0, 3, 1, 0), v == -1 ? 0 : 6);
        }
        CHECK.due("element 3 has none", x.pending(0, 1, 3), 0);
    }

    private static void assignTimes() {
        CycleKernel x = running();
        x.wave(5);
        x.wave(5);
        CHECK.isThrown("two the same", Check.ARGUMENT, () -> x.assign(0, 0, 0, 1, 1, 0));
        x.drop();
        x.wave(5);
        x.wave(6);
        x.wave(4);
        CHECK.isThrown("one falls", Check.ARGUMENT, () -> x.assign(0, 0, 0, 1, 1, 0));
        x.drop();
        x.end(1);
        x.suspend(0, false, 10);
        x.cycle();
        x.wave(1);
        x.wave(LAST - 9);
        CHECK.isThrown("above 2^60", Check.ARGUMENT, () -> x.assign(0, 0, 0, 1, 1, 0));
        x.drop();
        x.wave(LAST);
        CHECK.isThrown("above 2^60", Check.ARGUMENT, () -> x.assign(0, 0, 0, 1, 0, 0));
        x.drop();
        x.wave(LAST - 10);
        CHECK.due("at 2^60", x.assign(0, 0, 0, 1, 1, 0), 0);
        CHECK.due("next()", x.next(), LAST);
    }

    private static void assignTooMany() {
        CycleKernel x = new CycleKernel(1);
        for (int s = 0; s < 8; s++) {
            x.signal(1, s == 7 ? 63 : 64);
        }
        x.signal(2, 1);
        x.process();
        for (int s = 0; s < 9; s++) {
            x.drive(0, s);
        }
        x.start();
        for (int s = 0; s < 8; s++) {
            layMany(x, 16, 1);
            CHECK.due("signal " + s, x.assign(0, s, 0, s == 7 ? 63 : 64, 1, 0), 0);
        }
        layMany(x, 15, 1);
        CHECK.due("8191 transactions", x.assign(0, 8, 0, 1, 1, 0), 0);
        layMany(x, 2, 1);
        CHECK.isThrown("8193, all old ones counted", Check.STATE,
            () -> x.assign(0, 8, 0, 1, 1, 0));
        CHECK.isThrown("a wrong mode comes first", Check.ARGUMENT,
            () -> x.assign(0, 8, 0, 1, 3, 0));
        CHECK.due("nothing was deleted", x.pending(0, 8, 0), 15);
        x.drop();
        layMany(x, 1, 17);
        CHECK.due("8192 transactions", x.assign(0, 8, 0, 1, 1, 0), 0);
        layMany(x, 1, 20);
        x.put(0, 5);
        CHECK.isThrown("8193", Check.STATE, () -> x.assign(0, 8, 0, 1, 1, 0));
        x.suspend(0, false, 1);
        CHECK.due("cycle()", x.cycle(), CycleKernel.TIME);
        CHECK.due("512 are gone: it is laid down still", x.assign(0, 8, 0, 1, 0, 0), 15);
        layMany(x, 8, 1);
        CHECK.due("there is room again", x.assign(0, 0, 0, 64, 1, 0), 64 * 15);
        CHECK.due("pending", x.pending(0, 0, 63), 8);
    }

    private static void layMany(CycleKernel x, int n, long from) {
        for (int i = 0; i < n; i++) {
            x.wave(from + i);
        }
    }

    private static void exceptionsInOrder() {
        CycleKernel x = running();
        CHECK.isThrown("index before state", Check.INDEX, () -> x.assign(0, 0, 1, 1, 3, 0));
        CHECK.isThrown("index before state", Check.INDEX, () -> x.assign(5, 0, 0, 1, 3, 0));
        CHECK.isThrown("state before argument", Check.STATE, () -> x.assign(0, 0, 0, 1, 3, 0));
        x.wave(1);
        CHECK.isThrown("state before argument", Check.STATE, () -> x.assign(1, 0, 0, 1, 3, 0));
        CHECK.isThrown("argument", Check.ARGUMENT, () -> x.assign(0, 0, 0, 1, 3, 0));
        CHECK.due("nothing has changed", x.assign(0, 0, 0, 1, 0, 0), 0);
    }

    private static void modeOne() {
        CycleKernel x = running();
        CHECK.due("the first", number(x, 1, 0, 2, 20, 4, 40, 6, 60), 0);
        CHECK.due("behind all", number(x, 1, 0, 8, 80), 0);
        rowIs(x, "four", 4, 0, 0, 20, 20, 40, 40, 60, 60, 80);
        CHECK.due("at one", number(x, 1, 0, 6, 66), 2);
        rowIs(x, "at one", 3, 0, 0, 20, 20, 40, 40, 66, 66, 66);
        CHECK.due("between", number(x, 1, 0, 3, 33, 5, 55), 2);
        rowIs(x, "between", 3, 0, 0, 20, 33, 33, 55, 55);
        CHECK.due("before all", number(x, 1, 0, 0, 1), 3);
        rowIs(x, "before all", 1, 1, 1, 1, 1, 1, 1);
    }

    private static void modeZero() {
        CycleKernel x = running();
        number(x, 1, 0, 1, 10, 2, 20, 3, 30, 5, 50);
        CHECK.due("all with other values", number(x, 0, 0, 4, 44), 4);
        rowIs(x, "mode 0", 1, 0, 0, 0, 0, 44, 44);
        number(x, 1, 0, 1, 10, 2, 44, 3, 44);
        CHECK.due("two have its value", number(x, 0, 0, 4, 44, 6, 66), 1);
        rowIs(x, "the same value stays", 4, 0, 0, 44, 44, 44, 44, 66);
        CHECK.due("at NOW", number(x, 0, 0, 0, 5), 4);
        rowIs(x, "at NOW", 1, 5, 5, 5);
        CHECK.due("at NOW, and later", number(x, 0, 0, 2, 5), 0);
        rowIs(x, "at NOW, and later", 2, 5, 5, 5);
        CHECK.due("another value", number(x, 0, 0, 3, 6), 2);
        rowIs(x, "another value", 1, 0, 0, 0, 6);
    }

    private static void modeTwo() {
        CycleKernel x = running();
        number(x, 1, 0, 1, 10, 2, 20, 3, 30, 5, 50, 8, 80);
        CHECK.due("limit 3 of 6", number(x, 2, 3, 6, 60), 3);
        rowIs(x, "those before 3 stay", 3, 0, 10, 20, 20, 20, 20, 60, 60, 60);
        CHECK.due("limit 0", number(x, 2, 0, 7, 70), 0);
        rowIs(x, "limit 0", 4, 0, 10, 20, 20, 20, 20, 60, 70);
        CHECK.due("the full limit", number(x, 2, 7, 7, 70), 4);
        rowIs(x, "the full limit", 1, 0, 0, 0, 0, 0, 0, 0, 70);
        x.end(1);
        x.suspend(0, false, 2);
        x.cycle();
        number(x, 1, 0, 0, 1, 1, 2, 2, 3, 3, 4);
        CHECK.due("from NOW on", number(x, 2, 2, 4, 5), 2);
        CHECK.due("pending", x.pending(0, 2, 0), 3);
        CHECK.due("at 2", x.projected(0, 2, 0, 2), 1);
        CHECK.due("at 3", x.projected(0, 2, 0, 3), 2);
        CHECK.due("at 5", x.projected(0, 2, 0, 5), 2);
        CHECK.due("at 6", x.projected(0, 2, 0, 6), 5);
    }

    private static void keptForTheSameValue() {
        CycleKernel x = running();
        number(x, 1, 0, 1, 7, 2, 8, 3, 7, 4, 7);
        CHECK.due("the chain ends at another value", number(x, 2, 4, 5, 7), 1 + 1);
        rowIs(x, "the chain", 3, 0, 0, 0, 7, 7, 7);
        number(x, 1, 0, 1, 7, 2, 8, 3, 7, 4, 9);
        CHECK.due("no chain behind another value", number(x, 0, 0, 5, 7), 4);
        rowIs(x, "no chain", 1, 0, 0, 0, 0, 0, 7);
        number(x, 1, 0, 1, 6, 2, 8, 3, 7, 4, 7);
        CHECK.due("those before the limit, and the chain", number(x, 2, 3, 5, 7, 6, 9), 1);
        rowIs(x, "both", 5, 0, 6, 6, 7, 7, 7, 9);
        number(x, 1, 0, 1, 9, 2, 9);
        CHECK.due("only the first new one counts", number(x, 0, 0, 5, 7, 6, 9), 2);
        rowIs(x, "the first new one", 2, 0, 0, 0, 0, 0, 7, 9);
    }

    private static void elementsByThemselves() {
        CycleKernel x = running();
        x.wave(1);
        x.put(0, 2);
        x.put(1, 3);
        x.put(2, 2);
        x.put(3, 3);
        x.assign(0, 1, 0, 4, 1, 0);
        x.wave(2);
        x.put(0, 3);
        x.put(1, 3);
        x.put(2, 2);
        CHECK.due("elements 0 and 3", x.assign(0, 1, 0, 4, 0, 0), 2);
        int[] pending = {1, 2, 2, 1};
        for (int k = 0; k < 4; k++) {
            CHECK.due("pending " + k, x.pending(0, 1, k), pending[k]);
        }
    }

    private static void countsOverElements() {
        CycleKernel x = running();
        x.wave(1);
        x.wave(2);
        x.assign(0, 1, 0, 4, 1, 0);
        x.wave(1);
        x.put(0, 4);
        CHECK.due("two elements of two", x.assign(0, 1, 1, 2, 1, 0), 4);
        int[] pending = {2, 1, 1, 2};
        for (int k = 0; k < 4; k++) {
            CHECK.due("pending " + k, x.pending(0, 1, k), pending[k]);
        }
        CHECK.due("element 0 of the values to the first", x.projected(0, 1, 1, 1), 4);
    }

    private static void pendings() {
        CycleKernel x = running();
        int[][] wrong = {{-1, 0, 0}, {2, 0, 0}, {0, -1, 0}, {0, 3, 0}, {0, 1, -1}, {0, 1, 4},
            {1, 1, 4}, {0, 0, 1}, {0, 2, Integer.MAX_VALUE}};
        for (int[] w : wrong) {
            CHECK.isThrown("pending(" + w[0] + ", " + w[1] + ", " + w[2] + ")", Check.INDEX,
                () -> x.pending(w[0], w[1], w[2]));
            CHECK.isThrown("projected(" + w[0] + ", " + w[1] + ", " + w[2] + ")", Check.INDEX,
                () -> x.projected(w[0], w[1], w[2], -1));
        }
        CHECK.due("none yet", x.pending(0, 1, 0), 0);
        CHECK.due("no driver", x.pending(1, 1, 3), CycleKernel.NONE);
        number(x, 1, 0, 3, 1, 4, 2);
        x.end(1);
        x.suspend(0, false, CycleKernel.NONE);
        CHECK.due("two", x.pending(0, 2, 0), 2);
        x.cycle();
        CHECK.due("one is gone", x.pending(0, 2, 0), 1);
        x.cycle();
        CHECK.due("both are gone", x.pending(0, 2, 0), 0);
        CHECK.due("the value stays", x.projected(0, 2, 0, 4), 2);
        CHECK.isThrown("before NOW", Check.ARGUMENT, () -> x.projected(0, 2, 0, 3));
    }

    private static void projections() {
        CycleKernel x = running();
        number(x, 1, 0, 0, 11, 3, 22);
        CHECK.isThrown("before 0", Check.ARGUMENT, () -> x.projected(0, 2, 0, -1));
        CHECK.isThrown("before 0, no driver", Check.ARGUMENT, () -> x.projected(1, 2, 0, -1));
        CHECK.isThrown("far before", Check.ARGUMENT, () -> x.projected(0, 2, 0, Long.MIN_VALUE));
        CHECK.due("at NOW", x.projected(0, 2, 0, 0), 11);
        CHECK.due("before the next", x.projected(0, 2, 0, 2), 11);
        CHECK.due("at the next", x.projected(0, 2, 0, 3), 22);
        CHECK.due("at 2^60", x.projected(0, 2, 0, LAST), 22);
        CHECK.due("behind all times", x.projected(0, 2, 0, Long.MAX_VALUE), 22);
        CHECK.due("no driver", x.projected(1, 2, 0, 5), 0);
        CycleKernel y = new CycleKernel(1);
        y.signal(2, 1);
        y.process();
        y.drive(0, 0);
        y.first(0, 0, 17);
        CHECK.due("before the start", y.projected(0, 0, 0, 0), 0);
        CHECK.isThrown("before the start, before 0", Check.ARGUMENT,
            () -> y.projected(0, 0, 0, -1));
        CHECK.due("pending before the start", y.pending(0, 0, 0), 0);
        y.start();
        CHECK.due("the first value", y.projected(0, 0, 0, 0), 17);
    }
}
