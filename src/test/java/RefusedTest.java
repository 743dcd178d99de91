/**
 * Every exception that a call names, thrown where there is much that the call could have changed:
 * values and signals laid down, processes in every state, marks, transactions, rows that are
 * almost full. Run asks whether it did.
 */
public final class RefusedTest extends Boundary {
    private static final Check CHECK = new Check("RefusedTest");

    public static void main(String[] args) {
        beforeTheStart();
        beforeTheStartWithoutValues();
        atALaterStep();
        atALaterStepWithoutValues();
        atALaterStepWithDelaysThatDoNotRise();
        atALaterStepWithSixteenValues();
        withAlmostAllTransactions();
        withAlmostAllTransactionsAndNoValues();
        withAlmostAllTransactionsAndSixteenValues();
        withTwoHundredSignals();
        CHECK.close();
    }

    /**
     * 64 processes, and of 512 elements all but one made and driven. Signal 0 is LOGIC, 1 a ROW of
     * 4, 11 a NUMBER that process 1 drives. Signal 0 is laid down, and so many values.
     */
    private static Run large(String sentence, int values) {
        Run x = new Run(CHECK, sentence, 5);
        int[] sizes = {1, 4, 64, 64, 64, 64, 64, 64, 64, 52, 5, 1};
        for (int s = 0; s < sizes.length; s++) {
            x.gives(s).signal(s == 0 ? LOGIC : s == 11 ? NUMBER : ROW, sizes[s]);
        }
        for (int p = 0; p < 64; p++) {
            x.process();
        }
        for (int s = 0; s < 10; s++) {
            x.drive(0, s);
        }
        x.drive(1, 0);
        x.drive(1, 1);
        x.drive(1, 11);
        x.first(0, 0, Z);
        x.first(1, 0, Z);
        x.first(1, 3, H);
        x.first(11, 0, 12);
        for (int i = 1; i <= values; i++) {
            lay(x, i, i % 9);
        }
        x.on(0);
        return x;
    }

    private static void beforeTheStart() {
        Run x = large("before the start", 16);
        x.refuses(ARGUMENT).signal(3, 1);
        x.refuses(ARGUMENT).signal(ROW, 65);
        x.refuses(ARGUMENT).signal(LOGIC, 2);
        x.refuses(STATE).signal(ROW, 2);
        x.refuses(STATE).process();
        x.refuses(INDEX).drive(64, 0);
        x.refuses(INDEX).drive(0, 12);
        x.refuses(STATE).drive(0, 11);
        x.refuses(STATE).drive(2, 1);
        x.refuses(INDEX).first(12, 0, 0);
        x.refuses(INDEX).first(1, 4, 0);
        x.refuses(ARGUMENT).first(1, 3, 9);
        x.refuses(STATE).assign(0, 0, 0, 1, 0, 0);
        x.refuses(STATE).suspend(0, false, 0);
        x.refuses(STATE).suspend(1, true, NONE);
        x.refuses(STATE).end(0);
        x.refuses(STATE).answer(0, true);
        x.refuses(STATE).answer(0, false);
        x.refuses(STATE).wave(17);
        refusedAlways(x, 64, 12, 4, 0);
    }

    private static void beforeTheStartWithoutValues() {
        Run x = large("before the start, without values", 0);
        x.refuses(STATE).put(0, 1);
        x.refuses(INDEX).put(64, 1);
        x.refuses(ARGUMENT).wave(-1);
    }

    /**
     * At time 5 and step 1: processes 0 and 5 run, 1 is ASKED and waits until 20, 2 waits with a
     * question until 30, 3 waits without one, 4 has ended. Signal 0 has an EVENT, ROW 1 is ACTIVE,
     * NUMBER 2 is neither; signals 0 and 2 have transactions to come. Signal 1 is laid down.
     */
    private static Run later(String sentence) {
        Run x = new Run(CHECK, sentence, 5);
        x.signal(LOGIC, 1);
        x.signal(ROW, 4);
        x.signal(NUMBER, 1);
        for (int p = 0; p < 6; p++) {
            x.process();
            x.drive(p, 0);
            x.drive(p, 1);
        }
        x.drive(5, 2);
        x.first(0, 0, Z);
        x.first(1, 0, Z);
        x.start();
        set(x, 5, 2, 5, 7);
        x.suspend(0, false, 5);
        x.on(0);
        x.suspend(1, true, 20);
        x.on(1);
        x.on(2);
        x.suspend(2, true, 30);
        x.on(1);
        x.on(2);
        x.suspend(3, false, NONE);
        x.end(4);
        x.suspend(5, false, 5);
        x.gives(TIME).cycle();
        x.answer(2, false);
        x.on(1);
        x.on(2);
        x.suspend(3, false, NONE);
        set(x, 0, 0, 0, ONE);
        set(x, 0, 1, 0, Z);
        x.suspend(0, false, 0);
        set(x, 5, 2, 4, 9);
        set(x, 5, 0, 6, ZERO);
        x.suspend(5, false, 0);
        x.gives(STEP).cycle();
        x.on(1);
        int[] states = {RUNS, ASKED, WAITS, WAITS, ENDED, RUNS};
        for (int p = 0; p < 6; p++) {
            x.gives(states[p]).state(p);
        }
        int[] marks = {3, 1, 0};
        for (int s = 0; s < 3; s++) {
            x.gives(marks[s]).marks(s);
        }
        return x;
    }

    private static void atALaterStep() {
        Run x = later("at a later step");
        lay(x, 1, ONE, 3, H);
        refusedBehindTheStart(x, 6, 3, 4, 5);
        for (int p = 1; p < 5; p++) {
            x.refuses(STATE).assign(p, 0, 0, 1, 0, 0);
            x.refuses(STATE).suspend(p, false, 0);
            x.refuses(STATE).suspend(p, true, NONE);
        }
        for (int p = 2; p < 5; p++) {
            x.refuses(STATE).end(p);
        }
        for (int p : new int[] {2, 3, 4, 5}) {
            x.refuses(STATE).answer(p, false);
        }
        x.put(0, 9);
        x.refuses(ARGUMENT).assign(0, 0, 0, 1, 0, 0);
        x.refuses(ARGUMENT).assign(0, 1, 0, 4, 0, 0);
        x.put(0, H);
        x.wave(LAST_TIME);
        x.refuses(ARGUMENT).assign(0, 0, 0, 1, 0, 0);
        x.refuses(ARGUMENT).assign(5, 2, 0, 1, 1, 0);
    }

    private static void atALaterStepWithoutValues() {
        Run x = later("at a later step, without values");
        x.refuses(STATE).put(0, 1);
        x.refuses(INDEX).put(64, 1);
        for (int mode = 0; mode <= 2; mode++) {
            x.refuses(STATE).assign(0, 0, 0, 1, mode, 0);
        }
        x.refuses(STATE).assign(5, 2, 0, 1, 3, 0);
        x.refuses(STATE).cycle();
    }

    private static void atALaterStepWithDelaysThatDoNotRise() {
        Run x = later("at a later step, with delays that do not rise");
        lay(x, 4, ONE, 4, H);
        x.refuses(ARGUMENT).assign(0, 0, 0, 1, 0, 0);
        x.refuses(ARGUMENT).assign(5, 2, 0, 1, 1, 0);
    }

    private static void atALaterStepWithSixteenValues() {
        Run x = later("at a later step, with sixteen values");
        for (int i = 1; i <= 16; i++) {
            lay(x, i, i % 9);
        }
        x.refuses(STATE).wave(17);
        x.refuses(STATE).wave(0);
        x.refuses(ARGUMENT).wave(-1);
        x.refuses(INDEX).put(-1, 5);
    }

    /**
     * At time 1, with 8192 transactions less some of 512 elements: process 0 runs and drives all
     * but NUMBER 9, 1 is ASKED and waits until 20, 2 runs and drives NUMBER 9, 3 has ended. Signal
     * 0 has an EVENT; signal 9 is laid down.
     */
    private static Run almostFull(String sentence, int less) {
        Run x = new Run(CHECK, sentence, 5);
        int[] sizes = {1, 64, 64, 64, 64, 64, 64, 64, 62, 1};
        for (int p = 0; p < 4; p++) {
            x.process();
        }
        for (int s = 0; s < 10; s++) {
            x.signal(s == 0 ? LOGIC : s == 9 ? NUMBER : ROW, sizes[s]);
            x.drive(s == 9 ? 2 : 0, s);
        }
        // Refused here, because only a full object tells whether they took room from transactions.
        x.refuses(STATE).drive(1, 9);
        x.refuses(STATE).drive(1, 0);
        x.start();
        set(x, 0, 0, 1, ONE);
        x.suspend(0, false, 1);
        x.on(0);
        x.suspend(1, true, 20);
        x.suspend(2, false, 1);
        x.end(3);
        x.gives(TIME).cycle();
        for (int s = 0; s < 10; s++) {
            int many = s == 9 ? 16 - less : 16;
            layMany(x, many, 1);
            if (many > 0) {
                x.gives(0).assign(s == 9 ? 2 : 0, s, 0, sizes[s], 1, 0);
            }
        }
        x.on(9);
        return x;
    }

    private static void withAlmostAllTransactions() {
        Run x = almostFull("with almost all transactions", 1);
        lay(x, 17, ONE);
        x.refuses(STATE).assign(0, 1, 0, 2, 1, 0);
        x.refuses(STATE).assign(0, 1, 0, 64, 0, 0);
        refusedBehindTheStart(x, 4, 10, 64, 1);
        x.refuses(STATE).assign(1, 0, 0, 1, 1, 0);
        x.refuses(STATE).suspend(1, false, 0);
        x.refuses(STATE).end(3);
        x.gives(0).assign(0, 0, 0, 1, 1, 0);
    }

    private static void withAlmostAllTransactionsAndNoValues() {
        Run x = almostFull("with almost all transactions, without values", 1);
        x.refuses(STATE).put(0, 1);
        x.refuses(STATE).assign(0, 0, 0, 1, 1, 0);
    }

    private static void withAlmostAllTransactionsAndSixteenValues() {
        Run x = almostFull("with almost all transactions, with sixteen values", 16);
        layMany(x, 16, 1);
        x.refuses(STATE).wave(17);
        x.refuses(STATE).assign(0, 1, 0, 2, 1, 0);
        x.gives(0).assign(2, 9, 0, 1, 1, 0);
    }

    private static void withTwoHundredSignals() {
        Run x = new Run(CHECK, "with 200 signals", 5);
        for (int s = 0; s < 200; s++) {
            x.signal(NUMBER, 1);
        }
        x.process();
        x.process();
        x.drive(1, 0);
        x.drive(1, 199);
        lay(x, 1, 5);
        x.on(199);
        x.refuses(STATE).signal(NUMBER, 1);
        x.refuses(ARGUMENT).signal(NUMBER, 2);
        x.refuses(INDEX).drive(0, 200);
        x.refuses(STATE).drive(0, 199);
    }

    /** Signal 1 is a ROW of that size, the last one a NUMBER; process 0 runs, but for that one. */
    private static void refusedBehindTheStart(Run x, int processes, int signals, int size,
            long now) {
        x.refuses(ARGUMENT).signal(-1, 1);
        x.refuses(ARGUMENT).signal(ROW, 0);
        x.refuses(STATE).signal(NUMBER, 1);
        x.refuses(STATE).process();
        x.refuses(INDEX).drive(processes, 0);
        x.refuses(INDEX).drive(0, signals);
        x.refuses(STATE).drive(0, 0);
        x.refuses(STATE).drive(0, signals - 1);
        x.refuses(INDEX).first(signals, 0, 0);
        x.refuses(INDEX).first(1, size, 0);
        x.refuses(ARGUMENT).first(0, 0, 9);
        x.refuses(STATE).first(0, 0, W);
        x.refuses(STATE).start();
        x.refuses(STATE).assign(0, signals - 1, 0, 1, 0, 0);
        x.refuses(ARGUMENT).assign(0, 0, 0, 1, 3, 0);
        x.refuses(ARGUMENT).assign(0, 0, 0, 1, 2, -1);
        x.refuses(ARGUMENT).assign(0, 0, 0, 1, 2, 18);
        x.refuses(STATE).answer(0, true);
        x.refuses(STATE).answer(0, false);
        refusedAlways(x, processes, signals, size, now);
    }

    private static void refusedAlways(Run x, int processes, int signals, int size, long now) {
        x.refuses(ARGUMENT).wave(-1);
        x.refuses(ARGUMENT).wave(LAST_TIME + 1);
        x.refuses(INDEX).put(-1, Z);
        x.refuses(INDEX).put(64, Z);
        x.refuses(INDEX).assign(processes, 0, 0, 1, 1, 0);
        x.refuses(INDEX).assign(0, signals, 0, 1, 1, 0);
        x.refuses(INDEX).assign(0, 1, size, 1, 1, 0);
        x.refuses(INDEX).assign(0, 1, 0, size + 1, 1, 0);
        x.refuses(INDEX).assign(0, 1, 0, 0, 1, 0);
        x.refuses(INDEX).on(signals);
        x.refuses(INDEX).on(-1);
        x.refuses(INDEX).suspend(processes, false, NONE);
        x.refuses(ARGUMENT).suspend(0, false, -2);
        x.refuses(ARGUMENT).suspend(0, true, LAST_TIME + 1);
        x.refuses(INDEX).end(processes);
        x.refuses(INDEX).answer(processes, true);
        x.refuses(STATE).cycle();
        x.refuses(INDEX).state(processes);
        x.refuses(ARGUMENT).which(4, 0);
        x.refuses(INDEX).value(signals, 0, false);
        x.refuses(INDEX).value(1, size, true);
        x.refuses(INDEX).marks(signals);
        x.refuses(INDEX).pending(processes, 0, 0);
        x.refuses(INDEX).pending(0, signals, 0);
        x.refuses(INDEX).pending(0, 1, size);
        x.refuses(INDEX).projected(processes, 0, 0, now);
        x.refuses(INDEX).projected(0, signals, 0, now);
        x.refuses(INDEX).projected(0, 1, size, now);
        x.refuses(ARGUMENT).projected(0, 0, 0, now - 1);
    }
}
