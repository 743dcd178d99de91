/** What the tests of the document's boundaries share: its words, and objects to begin with. */
abstract class Boundary {
    static final int NONE = CycleKernel.NONE;
    static final int LOGIC = CycleKernel.LOGIC, ROW = CycleKernel.ROW, NUMBER = CycleKernel.NUMBER;
    static final int QUIET = CycleKernel.QUIET, TIME = CycleKernel.TIME, STEP = CycleKernel.STEP,
        LIMIT = CycleKernel.LIMIT;
    static final int RUNS = CycleKernel.RUNS, WAITS = CycleKernel.WAITS, ASKED = CycleKernel.ASKED,
        ENDED = CycleKernel.ENDED;
    static final int U = 0, X = 1, ZERO = 2, ONE = 3, Z = 4, W = 5, L = 6, H = 7, FREE = 8;
    static final int LEAST_INT = Integer.MIN_VALUE, MOST_INT = Integer.MAX_VALUE;
    static final long LEAST_LONG = Long.MIN_VALUE, MOST_LONG = Long.MAX_VALUE;
    static final long LAST_TIME = 1L << 60;
    static final Class<?> INDEX = Check.INDEX, ARGUMENT = Check.ARGUMENT, STATE = Check.STATE;

    /**
     * Before the start: signals 0 LOGIC, 1 a ROW of 4, 2 a NUMBER; process 0 drives all of them, 1
     * drives 0 and 1, and 2 drives none.
     */
    static Run small(Check check, String sentence) {
        Run x = new Run(check, sentence, 5);
        x.signal(LOGIC, 1);
        x.signal(ROW, 4);
        x.signal(NUMBER, 1);
        for (int p = 0; p < 3; p++) {
            x.process();
        }
        for (int s = 0; s < 3; s++) {
            x.drive(0, s);
        }
        x.drive(1, 0);
        x.drive(1, 1);
        return x;
    }

    /** The same behind the start. */
    static Run running(Check check, String sentence) {
        Run x = small(check, sentence);
        x.start();
        return x;
    }

    /** The same at a later time; process 0 runs, and 1 and 2 have ended. */
    static Run runningAt(Check check, String sentence, long time) {
        Run x = running(check, sentence);
        x.end(1);
        x.end(2);
        x.suspend(0, false, time);
        x.gives(TIME).cycle();
        x.gives(time).now();
        return x;
    }

    /**
     * Processes that all drive signal 0 and ROW 1, at time 1: process 0 RUNS, and drives NUMBER 2
     * too; 1 is ASKED, and waits until 9; 2 has ENDED; 3 WAITS for ever, for no signal.
     */
    static Run inEachState(Check check, String sentence) {
        Run x = small(check, sentence);
        x.process();
        for (int p = 2; p < 4; p++) {
            x.drive(p, 0);
            x.drive(p, 1);
        }
        x.first(0, 0, Z);
        x.start();
        set(x, 0, 0, 1, ONE);
        x.suspend(0, false, 1);
        x.on(0);
        x.suspend(1, true, 9);
        x.end(2);
        x.suspend(3, false, NONE);
        x.gives(TIME).cycle();
        int[] states = {RUNS, ASKED, ENDED, WAITS};
        for (int p = 0; p < 4; p++) {
            x.gives(states[p]).state(p);
        }
        return x;
    }

    /** Lays down pairs of a delay and a value of element 0. */
    static void lay(Run x, long... pairs) {
        for (int i = 0; i < pairs.length; i += 2) {
            x.wave(pairs[i]);
            x.put(0, (int) pairs[i + 1]);
        }
    }

    /** Lays down values that are all 0, at delays that rise by one. */
    static void layMany(Run x, int n, long from) {
        for (int i = 0; i < n; i++) {
            x.wave(from + i);
        }
    }

    /** One value for element 0 of a signal, behind all that its row has before that time. */
    static void set(Run x, int process, int signal, long delay, int value) {
        lay(x, delay, value);
        x.assign(process, signal, 0, 1, 1, 0);
    }

    /** The transactions of an element, told by pairs of a time and the value that is due there. */
    static void row(Run x, int process, int signal, int k, long... pairs) {
        x.gives(pairs.length / 2).pending(process, signal, k);
        for (int i = 0; i < pairs.length; i += 2) {
            x.gives(pairs[i + 1]).projected(process, signal, k, pairs[i]);
        }
    }
}
