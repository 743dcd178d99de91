/**
 * What drivers make together, the cycle, and promises 15 and 18 to 23 (cycle, value, marks, event,
 * now, step, next), at their boundaries.
 */
public final class CycleBoundaryTest extends Boundary {
    private static final Check CHECK = new Check("CycleBoundaryTest");

    public static void main(String[] args) {
        oneDriver();
        threeDrivers();
        allOfManyHaveZ();
        oneOfManyIsEnough();
        weakOnesOfMany();
        withoutDriversItKeepsItsValue();
        startMakesTogether();
        cycleBeforeTheStart();
        cycleWhenOneRuns();
        cycleWhenOneIsAsked();
        quietWhenThereIsNothing();
        quietChangesNothing();
        leastOfTransactions();
        leastOfTimesOfProcesses();
        leastOfBoth();
        stepWhenItIsNow();
        stepsUpToTheLimit();
        limitAtALaterTime();
        limitChangesNothing();
        stepIsZeroAtANewTime();
        theLastTime();
        onlyWhatIsNotBehindNow();
        dueTransactionsAreGone();
        activeWithoutAnEvent();
        oneElementMakesTheEvent();
        anotherAndBackIsNoEvent();
        noOtherSignalIsActive();
        lastValueIsWhatItWas();
        lastValueOfAWholeRow();
        waitsUntilNowAndIsNotAsked();
        eventWithoutAQuestion();
        eventWithAQuestion();
        activeIsNoEventToWaitFor();
        valueOfNoElement();
        marksOfNoSignal();
        marksBeforeTheStart();
        eventsOfNone();
        eventsOfMany();
        eventsInTheirOrder();
        nowAndStepBeforeTheStart();
        nextOfNone();
        nextOfOneThatIsAsked();
        nextAtNow();
        nextWhileProcessesRun();
        CHECK.close();
    }

    /** By the words of the document, one after the other. */
    private static int together(int... values) {
        int weak = Z;
        boolean same = true;
        for (int v : values) {
            if (v != Z) {
                same &= weak == Z || weak == v;
                weak = v;
            }
        }
        if (has(U, values)) {
            return U;
        }
        if (has(X, values) || has(FREE, values) || has(ZERO, values) && has(ONE, values)) {
            return X;
        }
        if (has(ZERO, values)) {
            return ZERO;
        }
        if (has(ONE, values)) {
            return ONE;
        }
        return same ? weak : W;
    }

    private static boolean has(int wanted, int... values) {
        for (int v : values) {
            if (v == wanted) {
                return true;
            }
        }
        return false;
    }

    private static void oneDriver() {
        Run x = new Run(CHECK, "driven together, of one driver alone", 1);
        x.signal(ROW, 9);
        x.process();
        x.drive(0, 0);
        x.start();
        x.wave(1);
        for (int v = U; v <= FREE; v++) {
            x.put(v, v);
        }
        x.assign(0, 0, 0, 9, 0, 0);
        x.end(0);
        x.gives(TIME).cycle();
        for (int v = U; v <= FREE; v++) {
            x.gives(v == FREE ? X : v).value(0, v, false);
            x.gives(v).projected(0, 0, v, 1);
        }
    }

    /** Every three values: for each of the first, the other two in two rows of 64 and 17. */
    private static void threeDrivers() {
        for (int a = U; a <= FREE; a++) {
            Run x = new Run(CHECK, "driven together, of three with " + a, 1);
            x.signal(ROW, 64);
            x.signal(ROW, 17);
            for (int p = 0; p < 3; p++) {
                x.process();
                x.drive(p, 0);
                x.drive(p, 1);
            }
            x.start();
            for (int p = 0; p < 3; p++) {
                for (int s = 0; s < 2; s++) {
                    x.wave(1);
                    for (int k = 0; k < (s == 0 ? 64 : 17); k++) {
                        int pair = 64 * s + k;
                        x.put(k, p == 0 ? a : p == 1 ? pair / 9 : pair % 9);
                    }
                    x.assign(p, s, 0, s == 0 ? 64 : 17, 0, 0);
                }
                x.end(p);
            }
            x.gives(TIME).cycle();
            for (int pair = 0; pair < 81; pair++) {
                x.gives(together(a, pair / 9, pair % 9)).value(pair / 64, pair % 64, false);
            }
        }
    }

    /** A signal of LOGIC with 64 drivers, that all have Z. */
    private static Run manyWithZ(String sentence) {
        Run x = new Run(CHECK, sentence, 1);
        x.signal(LOGIC, 1);
        for (int p = 0; p < 64; p++) {
            x.process();
            x.drive(p, 0);
        }
        x.first(0, 0, Z);
        x.start();
        return x;
    }

    private static void endAll(Run x, int processes) {
        for (int p = 0; p < processes; p++) {
            x.end(p);
        }
    }

    private static void allOfManyHaveZ() {
        Run x = manyWithZ("else Z if all have Z");
        x.gives(Z).value(0, 0, false);
        set(x, 63, 0, 1, Z);
        endAll(x, 64);
        x.gives(TIME).cycle();
        x.gives(Z).value(0, 0, false);
        x.gives(1).marks(0);
    }

    private static void oneOfManyIsEnough() {
        int[] due = {U, X, ZERO, ONE, Z, W, L, H, X};
        for (int p : new int[] {0, 31, 63}) {
            for (int v = U; v <= FREE; v++) {
                Run x = manyWithZ("if one has that: " + v + " of driver " + p);
                set(x, p, 0, 1, v);
                endAll(x, 64);
                x.gives(TIME).cycle();
                x.gives(due[v]).value(0, 0, false);
            }
        }
    }

    private static void weakOnesOfMany() {
        int[][] cases = {{L, L, L}, {H, H, H}, {W, W, W}, {L, H, W}, {H, L, W}, {W, L, W},
            {L, W, W}, {H, W, W}, {L, ONE, ONE}, {ZERO, H, ZERO}, {ZERO, ONE, X}, {ONE, ZERO, X},
            {X, U, U}, {FREE, U, U}, {ONE, FREE, X}, {L, X, X}, {ONE, ONE, ONE}};
        for (int[] c : cases) {
            Run x = manyWithZ("of those that have not Z: " + c[0] + " and " + c[1]);
            set(x, 0, 0, 1, c[0]);
            set(x, 63, 0, 1, c[1]);
            endAll(x, 64);
            x.gives(TIME).cycle();
            x.gives(c[2]).value(0, 0, false);
        }
    }

    private static void withoutDriversItKeepsItsValue() {
        Run x = new Run(CHECK, "a signal without drivers keeps its value", 1);
        x.signal(ROW, 2);
        x.signal(NUMBER, 1);
        x.process();
        x.first(0, 0, FREE);
        x.first(0, 1, H);
        x.first(1, 0, LEAST_INT);
        x.start();
        x.suspend(0, false, 1);
        x.gives(TIME).cycle();
        for (int last = 0; last < 2; last++) {
            x.gives(FREE).value(0, 0, last == 1);
            x.gives(H).value(0, 1, last == 1);
            x.gives(LEAST_INT).value(1, 0, last == 1);
        }
        x.gives(0).marks(0);
        x.gives(0).marks(1);
    }

    private static void startMakesTogether() {
        Run x = new Run(CHECK, "START: the value that their drivers make, as LAST VALUE too", 1);
        x.signal(ROW, 9);
        x.process();
        x.process();
        x.drive(0, 0);
        x.drive(1, 0);
        for (int v = U; v <= FREE; v++) {
            x.first(0, v, v);
        }
        x.start();
        for (int v = U; v <= FREE; v++) {
            x.gives(v == FREE ? X : v).value(0, v, false);
            x.gives(v == FREE ? X : v).value(0, v, true);
            x.gives(v).projected(1, 0, v, 0);
        }
        x.gives(0).marks(0);
    }

    private static void cycleBeforeTheStart() {
        Run x = small(CHECK, "cycle: IllegalStateException before the start");
        x.refuses(STATE).cycle();
        Run y = new Run(CHECK, "cycle: before the start of an object with nothing in it", 1);
        y.refuses(STATE).cycle();
        y.start();
        y.gives(QUIET).cycle();
    }

    private static void cycleWhenOneRuns() {
        for (int last = 0; last < 3; last++) {
            Run x = running(CHECK, "cycle: when a process runs: " + last);
            set(x, 0, 2, 0, 7);
            x.refuses(STATE).cycle();
            for (int p = 0; p < 3; p++) {
                if (p != last) {
                    x.suspend(p, false, 0);
                    x.refuses(STATE).cycle();
                }
            }
            x.suspend(last, false, NONE);
            x.gives(STEP).cycle();
        }
    }

    private static void cycleWhenOneIsAsked() {
        Run x = inEachState(CHECK, "cycle: when a process is ASKED");
        x.refuses(STATE).cycle();
        x.suspend(0, false, NONE);
        x.refuses(STATE).cycle();
        x.answer(1, false);
        x.gives(TIME).cycle();
        x.gives(9).now();
    }

    private static void quietWhenThereIsNothing() {
        Run x = running(CHECK, "there is none: QUIET");
        x.suspend(0, false, NONE);
        x.end(1);
        x.on(0);
        x.suspend(2, true, NONE);
        x.gives(QUIET).cycle();
        x.gives(QUIET).cycle();
        x.gives(0).now();
        x.gives(0).step();
    }

    private static void quietChangesNothing() {
        Run x = running(CHECK, "for QUIET nothing changes");
        set(x, 0, 2, 1, 7);
        set(x, 0, 0, 1, U);
        endAll(x, 3);
        x.gives(TIME).cycle();
        for (int i = 0; i < 3; i++) {
            x.gives(3).marks(2);
            x.gives(1).marks(0);
            x.gives(0).marks(1);
            x.gives(2).event(0);
            x.gives(NONE).event(1);
            x.gives(7).value(2, 0, false);
            x.gives(0).value(2, 0, true);
            x.gives(1).now();
            x.gives(0).step();
            x.gives(QUIET).cycle();
        }
    }

    private static void leastOfTransactions() {
        Run x = running(CHECK, "the least of all transactions");
        set(x, 0, 2, LAST_TIME, 1);
        x.gives(LAST_TIME).next();
        set(x, 1, 1, 9, ONE);
        x.gives(9).next();
        lay(x, 8, ONE);
        x.assign(0, 1, 3, 1, 0, 0);
        x.gives(8).next();
        set(x, 0, 0, 10, ONE);
        x.gives(8).next();
        endAll(x, 3);
        for (long time : new long[] {8, 9, 10, LAST_TIME}) {
            x.gives(TIME).cycle();
            x.gives(time).now();
        }
        x.gives(QUIET).cycle();
    }

    private static void leastOfTimesOfProcesses() {
        Run x = running(CHECK, "and of all times until which processes wait");
        x.suspend(0, false, LAST_TIME);
        x.gives(LAST_TIME).next();
        x.suspend(1, true, 3);
        x.gives(3).next();
        x.suspend(2, false, 4);
        x.gives(3).next();
        x.gives(TIME).cycle();
        x.gives(3).now();
        x.gives(RUNS).state(1);
        x.gives(WAITS).state(2);
    }

    private static void leastOfBoth() {
        for (int wait = 4; wait <= 6; wait++) {
            Run x = running(CHECK, "the least: a transaction at 5, a process until " + wait);
            set(x, 0, 2, 5, 7);
            x.suspend(0, false, wait);
            x.end(1);
            x.end(2);
            int least = Math.min(5, wait);
            x.gives(least).next();
            x.gives(TIME).cycle();
            x.gives(least).now();
            x.gives(wait == least ? RUNS : WAITS).state(0);
            x.gives(5 == least ? 3 : 0).marks(2);
        }
    }

    private static void stepWhenItIsNow() {
        Run x = running(CHECK, "it is NOW: the step is one more");
        set(x, 0, 2, 0, 7);
        x.suspend(0, false, NONE);
        x.suspend(1, false, 1);
        x.end(2);
        x.gives(STEP).cycle();
        x.gives(1).step();
        x.gives(0).now();
        x.gives(TIME).cycle();
        x.gives(0).step();
        x.gives(1).now();
        x.suspend(1, false, 0);
        x.gives(STEP).cycle();
        x.gives(1).step();
        x.gives(1).now();
    }

    private static void steps(Run x, int n) {
        for (int i = 1; i <= n; i++) {
            x.suspend(0, false, 0);
            x.gives(STEP).cycle();
            x.gives(i).step();
        }
    }

    private static void stepsUpToTheLimit() {
        for (int limit : new int[] {1, 2, 7, 100}) {
            Run x = new Run(CHECK, "not above the constructor's limit of " + limit, limit);
            x.process();
            x.start();
            steps(x, limit);
            x.suspend(0, false, 0);
            x.gives(LIMIT).cycle();
            x.gives(limit).step();
            x.gives(LIMIT).cycle();
            x.gives(WAITS).state(0);
        }
    }

    private static void limitAtALaterTime() {
        Run x = new Run(CHECK, "a limit of steps at one time: at each time anew", 2);
        x.process();
        x.start();
        for (int i = 0; i < 3; i++) {
            steps(x, 2);
            x.suspend(0, false, 1);
            x.gives(TIME).cycle();
            x.gives(0).step();
        }
        steps(x, 2);
        x.suspend(0, false, 0);
        x.gives(LIMIT).cycle();
        x.gives(3).now();
    }

    private static void limitChangesNothing() {
        Run x = new Run(CHECK, "for LIMIT nothing changes", 1);
        x.signal(NUMBER, 1);
        x.signal(LOGIC, 1);
        x.process();
        x.drive(0, 0);
        x.drive(0, 1);
        x.start();
        set(x, 0, 0, 0, 7);
        set(x, 0, 1, 0, U);
        x.suspend(0, false, 0);
        x.gives(STEP).cycle();
        set(x, 0, 0, 0, 8);
        set(x, 0, 1, 0, ONE);
        x.on(0);
        x.suspend(0, false, 0);
        for (int i = 0; i < 3; i++) {
            x.gives(LIMIT).cycle();
            x.gives(3).marks(0);
            x.gives(1).marks(1);
            x.gives(0).event(0);
            x.gives(NONE).event(1);
            x.gives(7).value(0, 0, false);
            x.gives(0).value(0, 0, true);
            x.gives(1).pending(0, 0, 0);
            x.gives(WAITS).state(0);
            x.gives(0).next();
            x.gives(0).now();
            x.gives(1).step();
        }
    }

    private static void stepIsZeroAtANewTime() {
        Run x = new Run(CHECK, "otherwise it becomes NOW, with step 0", 3);
        x.process();
        x.start();
        steps(x, 3);
        x.suspend(0, false, LAST_TIME);
        x.gives(TIME).cycle();
        x.gives(0).step();
        x.gives(LAST_TIME).now();
        steps(x, 3);
        x.suspend(0, false, 0);
        x.gives(LIMIT).cycle();
    }

    private static void theLastTime() {
        Run x = runningAt(CHECK, "TIMES are 0 .. 2^60", LAST_TIME);
        set(x, 0, 2, 0, 7);
        x.on(2);
        x.suspend(0, false, NONE);
        x.gives(LAST_TIME).next();
        x.gives(STEP).cycle();
        x.gives(LAST_TIME).now();
        x.gives(7).value(2, 0, false);
        x.gives(RUNS).state(0);
        x.suspend(0, false, NONE);
        x.gives(QUIET).cycle();
        x.gives(LAST_TIME).now();
    }

    private static void onlyWhatIsNotBehindNow() {
        Run x = running(CHECK, "its last transaction that is not behind NOW");
        lay(x, 5, 50, 6, 60);
        x.assign(0, 2, 0, 1, 1, 0);
        endAll(x, 3);
        x.gives(TIME).cycle();
        x.gives(50).value(2, 0, false);
        x.gives(1).pending(0, 2, 0);
        x.gives(6).next();
        x.gives(TIME).cycle();
        x.gives(60).value(2, 0, false);
        x.gives(0).pending(0, 2, 0);
    }

    private static void dueTransactionsAreGone() {
        Run x = running(CHECK, "and all these are gone, none is before NOW");
        layMany(x, 16, 0);
        x.assign(0, 2, 0, 1, 1, 0);
        layMany(x, 16, 0);
        x.assign(1, 1, 0, 4, 1, 0);
        endAll(x, 3);
        for (int t = 0; t < 16; t++) {
            x.gives(t).next();
            x.gives(t == 0 ? STEP : TIME).cycle();
            x.gives(15 - t).pending(0, 2, 0);
            x.gives(15 - t).pending(1, 1, 3);
            x.gives(0).pending(0, 1, 3);
        }
        x.gives(NONE).next();
        x.gives(QUIET).cycle();
    }

    private static void activeWithoutAnEvent() {
        Run x = running(CHECK, "marks: 0 no, 1 without an EVENT, 3 with one");
        set(x, 0, 0, 1, U);
        set(x, 0, 1, 1, ONE);
        set(x, 1, 1, 1, ONE);
        for (int s = 0; s < 3; s++) {
            x.gives(0).marks(s);
        }
        endAll(x, 3);
        x.gives(TIME).cycle();
        x.gives(1).marks(0);
        x.gives(3).marks(1);
        x.gives(0).marks(2);
    }

    private static void oneElementMakesTheEvent() {
        for (int k = 0; k < 64; k += 21) {
            Run x = new Run(CHECK, "when that is another one, in element " + k + " alone", 1);
            x.signal(ROW, 64);
            x.process();
            x.drive(0, 0);
            x.start();
            x.wave(1);
            x.put(k, ONE);
            x.assign(0, 0, 0, 64, 0, 0);
            x.end(0);
            x.gives(TIME).cycle();
            x.gives(3).marks(0);
            x.gives(0).event(0);
            for (int i = 0; i < 64; i++) {
                x.gives(i == k ? ONE : U).value(0, i, false);
                x.gives(U).value(0, i, true);
            }
        }
    }

    /** Two drivers change, but what they make together is the same. */
    private static void anotherAndBackIsNoEvent() {
        Run x = small(CHECK, "when that is another one: not of a driver, but of the signal");
        x.first(0, 0, ZERO);
        x.start();
        set(x, 0, 0, 1, L);
        set(x, 0, 0, 2, ZERO);
        set(x, 1, 0, 2, L);
        x.on(0);
        x.suspend(2, false, NONE);
        x.end(0);
        x.end(1);
        for (int i = 0; i < 2; i++) {
            x.gives(TIME).cycle();
            x.gives(ZERO).value(0, 0, false);
            x.gives(ZERO).value(0, 0, true);
            x.gives(1).marks(0);
            x.gives(NONE).event(0);
            x.gives(WAITS).state(2);
        }
    }

    private static void noOtherSignalIsActive() {
        Run x = running(CHECK, "no other signal is ACTIVE or has an EVENT");
        set(x, 0, 2, 1, 7);
        set(x, 0, 0, 1, U);
        set(x, 1, 1, 2, U);
        x.suspend(0, false, 3);
        x.end(1);
        x.end(2);
        int[][] due = {{1, 0, 3}, {0, 1, 0}, {0, 0, 0}};
        for (int[] marks : due) {
            x.gives(TIME).cycle();
            for (int s = 0; s < 3; s++) {
                x.gives(marks[s]).marks(s);
            }
        }
        x.gives(NONE).event(0);
    }

    private static void lastValueIsWhatItWas() {
        Run x = running(CHECK, "its LAST VALUE is what it was before");
        lay(x, 1, 9, 2, 9, 3, 8);
        x.assign(0, 2, 0, 1, 1, 0);
        endAll(x, 3);
        int[][] due = {{9, 0, 3}, {9, 0, 1}, {8, 9, 3}};
        for (int[] d : due) {
            x.gives(TIME).cycle();
            x.gives(d[0]).value(2, 0, false);
            x.gives(d[1]).value(2, 0, true);
            x.gives(d[2]).marks(2);
        }
    }

    private static void lastValueOfAWholeRow() {
        Run x = new Run(CHECK, "its LAST VALUE, in the elements that stay the same too", 1);
        x.signal(ROW, 2);
        x.process();
        x.drive(0, 0);
        x.start();
        x.wave(1);
        x.put(0, ONE);
        x.put(1, ONE);
        x.assign(0, 0, 0, 2, 0, 0);
        lay(x, 2, ZERO);
        x.assign(0, 0, 0, 1, 1, 0);
        x.end(0);
        int[][] lasts = {{ONE, U, ONE, U}, {ZERO, ONE, ONE, ONE}};
        for (int[] d : lasts) {
            x.gives(TIME).cycle();
            x.gives(d[0]).value(0, 0, false);
            x.gives(d[1]).value(0, 0, true);
            x.gives(d[2]).value(0, 1, false);
            x.gives(d[3]).value(0, 1, true);
        }
    }

    private static void waitsUntilNowAndIsNotAsked() {
        for (int until = 4; until <= 6; until++) {
            Run x = running(CHECK, "a process that waits until NOW runs (it is not ASKED)");
            set(x, 0, 2, 5, 7);
            x.on(2);
            x.suspend(1, true, until);
            x.end(0);
            x.end(2);
            x.gives(TIME).cycle();
            x.gives(Math.min(5, until)).now();
            x.gives(until <= 5 ? RUNS : ASKED).state(1);
        }
        Run y = running(CHECK, "a process that waits until NOW, in the next step");
        set(y, 0, 2, 0, 7);
        y.on(2);
        y.suspend(1, true, 0);
        y.on(2);
        y.suspend(2, true, 1);
        y.end(0);
        y.gives(STEP).cycle();
        y.gives(RUNS).state(1);
        y.gives(ASKED).state(2);
    }

    private static void eventWithoutAQuestion() {
        Run x = running(CHECK, "one that waits for a signal that has an EVENT runs");
        set(x, 0, 2, 5, 7);
        x.on(0);
        x.on(2);
        x.suspend(1, false, 9);
        x.on(0);
        x.on(1);
        x.suspend(2, false, NONE);
        x.end(0);
        x.gives(TIME).cycle();
        x.gives(RUNS).state(1);
        x.gives(WAITS).state(2);
        x.gives(NONE).next();
    }

    private static void eventWithAQuestion() {
        Run x = running(CHECK, "with one it is ASKED");
        set(x, 0, 2, 5, 7);
        x.on(0);
        x.on(2);
        x.suspend(1, true, 9);
        x.on(0);
        x.on(1);
        x.suspend(2, true, 8);
        x.end(0);
        x.gives(TIME).cycle();
        x.gives(ASKED).state(1);
        x.gives(WAITS).state(2);
        x.gives(8).next();
        x.refuses(STATE).cycle();
    }

    private static void activeIsNoEventToWaitFor() {
        Run x = running(CHECK, "a signal that is ACTIVE without an EVENT lets none run");
        set(x, 0, 2, 5, 0);
        for (int p = 1; p < 3; p++) {
            x.on(2);
            x.suspend(p, p == 2, NONE);
        }
        x.end(0);
        x.gives(TIME).cycle();
        x.gives(1).marks(2);
        x.gives(WAITS).state(1);
        x.gives(WAITS).state(2);
    }

    private static void valueOfNoElement() {
        Run x = running(CHECK, "value: no such signal, element");
        for (int last = 0; last < 2; last++) {
            for (int s : new int[] {-1, 3, 200, LEAST_INT, MOST_INT}) {
                x.refuses(INDEX).value(s, 0, last == 1);
            }
            for (int k : new int[] {-1, 4, 64, LEAST_INT, MOST_INT}) {
                x.refuses(INDEX).value(1, k, last == 1);
            }
            x.refuses(INDEX).value(0, 1, last == 1);
            x.refuses(INDEX).value(2, 1, last == 1);
            x.gives(U).value(1, 0, last == 1);
            x.gives(U).value(1, 3, last == 1);
        }
    }

    private static void marksOfNoSignal() {
        Run x = running(CHECK, "marks: there is no such signal");
        for (int s : new int[] {-1, 3, 200, LEAST_INT, MOST_INT}) {
            x.refuses(INDEX).marks(s);
        }
        x.gives(0).marks(0);
        x.gives(0).marks(2);
    }

    private static void marksBeforeTheStart() {
        Run x = small(CHECK, "no signal is ACTIVE before the start, or at it");
        x.first(0, 0, ONE);
        x.gives(0).marks(0);
        x.gives(NONE).event(0);
        x.start();
        x.gives(0).marks(0);
        x.gives(NONE).event(0);
    }

    private static void eventsOfNone() {
        Run x = running(CHECK, "event: NONE when there is none such");
        for (int i : new int[] {-1, 0, 1, LEAST_INT, MOST_INT}) {
            x.gives(NONE).event(i);
        }
        set(x, 0, 2, 1, 7);
        endAll(x, 3);
        x.gives(TIME).cycle();
        for (int i : new int[] {-1, 1, 2, LEAST_INT, MOST_INT}) {
            x.gives(NONE).event(i);
        }
        x.gives(2).event(0);
    }

    private static void eventsOfMany() {
        Run x = new Run(CHECK, "event: as many as 512 calls can make", 1);
        x.process();
        for (int s = 0; s < 80; s++) {
            x.signal(NUMBER, 1);
            x.drive(0, s);
        }
        x.start();
        for (int s = 79; s >= 0; s--) {
            set(x, 0, s, 1, s + 1);
        }
        x.end(0);
        x.gives(TIME).cycle();
        for (int i = 0; i < 80; i++) {
            x.gives(i).event(i);
        }
        x.gives(NONE).event(80);
        x.gives(NONE).event(-1);
    }

    private static void eventsInTheirOrder() {
        Run x = new Run(CHECK, "event: from 0, in the order of their numbers", 1);
        x.process();
        for (int s = 0; s < 200; s++) {
            x.signal(NUMBER, 1);
        }
        int[] changed = {0, 62, 63, 64, 127, 128, 129, 191, 192, 199};
        for (int s : changed) {
            x.drive(0, s);
        }
        x.start();
        for (int i = changed.length - 1; i >= 0; i--) {
            set(x, 0, changed[i], 1, 5);
        }
        x.end(0);
        x.gives(TIME).cycle();
        for (int i = 0; i < changed.length; i++) {
            x.gives(changed[i]).event(i);
        }
        x.gives(NONE).event(changed.length);
        for (int s : new int[] {1, 61, 65, 126, 130, 190, 193, 198}) {
            x.gives(0).marks(s);
        }
    }

    private static void nowAndStepBeforeTheStart() {
        Run x = small(CHECK, "NOW is 0 and step 0");
        x.gives(0).now();
        x.gives(0).step();
        x.start();
        x.gives(0).now();
        x.gives(0).step();
    }

    private static void nextOfNone() {
        Run x = small(CHECK, "next: NONE when there is none");
        x.gives(NONE).next();
        x.start();
        x.gives(NONE).next();
        x.suspend(0, false, NONE);
        x.gives(NONE).next();
        x.end(1);
        x.gives(NONE).next();
        x.suspend(2, false, 0);
        x.gives(0).next();
        x.gives(STEP).cycle();
        x.gives(NONE).next();
    }

    private static void nextOfOneThatIsAsked() {
        Run x = inEachState(CHECK, "next: of processes that wait or are ASKED");
        x.gives(9).next();
        x.answer(1, false);
        x.gives(9).next();
        Run y = inEachState(CHECK, "next: not of one that runs again");
        y.answer(1, true);
        y.gives(NONE).next();
        Run z = inEachState(CHECK, "next: not of one that has ended");
        z.end(1);
        z.gives(NONE).next();
    }

    private static void nextAtNow() {
        Run x = runningAt(CHECK, "next: NOW itself", 6);
        x.gives(NONE).next();
        set(x, 0, 2, 0, 7);
        x.gives(6).next();
        x.suspend(0, false, 0);
        x.gives(STEP).cycle();
        x.gives(NONE).next();
        x.suspend(0, false, 0);
        x.gives(6).next();
    }

    private static void nextWhileProcessesRun() {
        Run x = running(CHECK, "next: of transactions, also while processes run");
        set(x, 0, 2, LAST_TIME, 7);
        x.gives(LAST_TIME).next();
        set(x, 0, 0, 0, ONE);
        x.gives(0).next();
        x.suspend(1, false, 3);
        x.gives(0).next();
        lay(x, 1, ZERO);
        x.gives(1).assign(0, 0, 0, 1, 0, 0);
        x.gives(1).next();
    }
}
