/**
 * What an assignment makes of the rows of transactions, the order of its exceptions, and promises
 * 24 and 25 (pending, projected), at their boundaries.
 */
public final class TransactionBoundaryTest extends Boundary {
    private static final Check CHECK = new Check("TransactionBoundaryTest");

    public static void main(String[] args) {
        oldOnesAtTheFirstTime();
        oldOnesWhenTheNewOneIsAtNow();
        newOnesBehindAllOthers();
        deletedByTheFirstOfManyNewOnes();
        modeOneHasNoLimit();
        limitOfModeZero();
        limitOfModeZeroAtNow();
        oldOnesAtTheLimit();
        limitOfZero();
        limitOfTheFirstDelay();
        limitBehindNow();
        sameValueAsTheNext();
        sameValueWithAnotherBetween();
        sameValueBeforeTheLimit();
        sameValueAsALaterNewOne();
        eachElementByItself();
        deletedForWhateverReason();
        indexBeforeAll();
        stateBeforeArgument();
        transactionsAreFull();
        oneMoreThanFull();
        oldOnesCountWithNewOnes();
        roomIsThereAgain();
        roomIsThereAgainWhenTimeGoesOn();
        argumentBeforeTooMany();
        indexAndStateBeforeTooMany();
        pendingWithoutADriver();
        pendingOfNoneAndMany();
        pendingOfNoElement();
        projectedAtNow();
        projectedBeforeNow();
        projectedAtATransaction();
        projectedWithoutADriver();
        projectedBeforeTheStart();
        projectedOfNoElement();
        projectedExceptionsInOrder();
        CHECK.close();
    }

    private static void number(Run x, int mode, long limit, long... pairs) {
        lay(x, pairs);
        x.assign(0, 2, 0, 1, mode, limit);
    }

    private static void deletes(Run x, int deleted, int mode, long limit, long... pairs) {
        lay(x, pairs);
        x.gives(deleted).assign(0, 2, 0, 1, mode, limit);
    }

    private static void oldOnesAtTheFirstTime() {
        Run x = running(CHECK, "at or behind the first new one's time are deleted");
        number(x, 1, 0, 4, 40, 5, 50, 6, 60);
        deletes(x, 2, 1, 0, 5, 55);
        row(x, 0, 2, 0, 4, 40, 5, 55);
        deletes(x, 1, 1, 0, 5, 56);
        row(x, 0, 2, 0, 4, 40, 5, 56);
        deletes(x, 0, 1, 0, 6, 66);
        row(x, 0, 2, 0, 4, 40, 5, 56, 6, 66);
    }

    private static void oldOnesWhenTheNewOneIsAtNow() {
        for (int mode = 0; mode <= 2; mode++) {
            Run x = running(CHECK, "all are deleted by a new one at NOW");
            number(x, 1, 0, 0, 1, 1, 2, LAST_TIME, 3);
            deletes(x, 3, mode, 0, 0, 9);
            row(x, 0, 2, 0, 0, 9);
        }
    }

    private static void newOnesBehindAllOthers() {
        Run x = running(CHECK, "the new ones come behind the others");
        deletes(x, 0, 1, 0, 3, 30);
        deletes(x, 0, 1, 0, 4, 40, 5, 50);
        deletes(x, 0, 1, 0, LAST_TIME, 60);
        row(x, 0, 2, 0, 3, 30, 4, 40, 5, 50, LAST_TIME, 60);
        x.gives(0).projected(0, 2, 0, 2);
        x.gives(50).projected(0, 2, 0, LAST_TIME - 1);
    }

    private static void deletedByTheFirstOfManyNewOnes() {
        Run x = running(CHECK, "behind the first new one's time, not the last one's");
        number(x, 1, 0, 2, 20, 4, 40, 6, 60, 8, 80);
        deletes(x, 3, 1, 0, 3, 33, 9, 99);
        row(x, 0, 2, 0, 2, 20, 3, 33, 9, 99);
    }

    private static void modeOneHasNoLimit() {
        Run x = running(CHECK, "for modes 0 and 2 there is a LIMIT: none for mode 1");
        number(x, 1, 0, 0, 1, 1, 2, 2, 3);
        deletes(x, 0, 1, 3, 3, 9);
        row(x, 0, 2, 0, 0, 1, 1, 2, 2, 3, 3, 9);
    }

    private static void limitOfModeZero() {
        Run x = running(CHECK, "the first delay for mode 0");
        number(x, 1, 0, 1, 10, 2, 20, 5, 50);
        deletes(x, 3, 0, 0, 6, 60, 7, 70);
        row(x, 0, 2, 0, 6, 60, 7, 70);
    }

    private static void limitOfModeZeroAtNow() {
        Run x = running(CHECK, "the first delay for mode 0: what is at NOW is not before NOW");
        number(x, 1, 0, 0, 1);
        deletes(x, 1, 0, 0, 1, 9);
        row(x, 0, 2, 0, 1, 9);
        Run y = runningAt(CHECK, "the first delay for mode 0, at a later time", 7);
        number(y, 1, 0, 0, 1, 1, 2);
        deletes(y, 2, 0, 0, 2, 9);
        row(y, 0, 2, 0, 9, 9);
    }

    private static void oldOnesAtTheLimit() {
        Run x = running(CHECK, "those before the first new one's time less the limit");
        number(x, 1, 0, 5, 50, 6, 60, 7, 70);
        deletes(x, 2, 2, 4, 10, 99);
        row(x, 0, 2, 0, 5, 50, 10, 99);
        Run y = running(CHECK, "one more of the limit: one less is before it");
        number(y, 1, 0, 5, 50, 6, 60, 7, 70);
        deletes(y, 3, 2, 5, 10, 99);
        row(y, 0, 2, 0, 10, 99);
        Run z = running(CHECK, "one less of the limit: one more is before it");
        number(z, 1, 0, 5, 50, 6, 60, 7, 70);
        deletes(z, 1, 2, 3, 10, 99);
        row(z, 0, 2, 0, 5, 50, 6, 60, 10, 99);
    }

    private static void limitOfZero() {
        Run x = running(CHECK, "what is given for mode 2: a limit of 0");
        number(x, 1, 0, 0, 1, 9, 90);
        deletes(x, 0, 2, 0, 10, 99);
        row(x, 0, 2, 0, 0, 1, 9, 90, 10, 99);
        deletes(x, 1, 2, 0, 10, 98);
    }

    private static void limitOfTheFirstDelay() {
        Run x = running(CHECK, "what is given for mode 2: a limit of the whole first delay");
        number(x, 1, 0, 0, 1, 9, 90);
        deletes(x, 2, 2, 10, 10, 99);
        row(x, 0, 2, 0, 10, 99);
        number(x, 1, 0, 0, 1, 1, 10, 9, 90);
        deletes(x, 2, 2, 9, 10, 99);
        row(x, 0, 2, 0, 0, 1, 10, 99);
    }

    private static void limitBehindNow() {
        Run x = runningAt(CHECK, "the limit goes back from the new one's time, not its delay", 100);
        number(x, 1, 0, 2, 20, 3, 30, 4, 40);
        deletes(x, 2, 2, 3, 6, 60);
        row(x, 0, 2, 0, 102, 20, 106, 60);
        Run y = runningAt(CHECK, "the limit at the last of all times", LAST_TIME - 6);
        number(y, 1, 0, 2, 20, 3, 30, 4, 40);
        deletes(y, 2, 2, 3, 6, 60);
        row(y, 0, 2, 0, LAST_TIME - 4, 20, LAST_TIME, 60);
    }

    private static void sameValueAsTheNext() {
        Run x = running(CHECK, "each whose next one is marked and has the same value");
        number(x, 1, 0, 1, 9, 2, 9, 3, 9);
        deletes(x, 0, 0, 0, 4, 9);
        row(x, 0, 2, 0, 1, 9, 2, 9, 3, 9, 4, 9);
        deletes(x, 4, 0, 0, 5, 8);
        row(x, 0, 2, 0, 5, 8);
    }

    private static void sameValueWithAnotherBetween() {
        Run x = running(CHECK, "from the last of the others to the first");
        number(x, 1, 0, 1, 9, 2, 7, 3, 9);
        deletes(x, 2, 0, 0, 4, 9);
        row(x, 0, 2, 0, 3, 9, 4, 9);
        Run y = running(CHECK, "two of the same value, but their next one is not marked");
        number(y, 1, 0, 1, 7, 2, 7, 3, 9, 4, 9);
        deletes(y, 2, 0, 0, 5, 9);
        row(y, 0, 2, 0, 3, 9, 4, 9, 5, 9);
    }

    /** What is before the limit is marked for its time, and its value is not asked for. */
    private static void sameValueBeforeTheLimit() {
        Run x = running(CHECK, "those before the limit stay, whatever their value");
        number(x, 1, 0, 1, 9, 2, 7, 3, 7, 4, 9);
        deletes(x, 1, 2, 2, 5, 9);
        row(x, 0, 2, 0, 1, 9, 2, 7, 4, 9, 5, 9);
        Run y = running(CHECK, "one behind the limit has the value of one before it");
        number(y, 1, 0, 1, 9, 2, 7, 3, 7);
        deletes(y, 1, 2, 2, 5, 9);
        row(y, 0, 2, 0, 1, 9, 2, 7, 5, 9);
    }

    private static void sameValueAsALaterNewOne() {
        Run x = running(CHECK, "the next one of the last old one is the first new one");
        number(x, 1, 0, 1, 8, 2, 8);
        deletes(x, 2, 0, 0, 3, 9, 4, 8);
        row(x, 0, 2, 0, 3, 9, 4, 8);
        Run y = running(CHECK, "an old one behind the first new one's time marks none");
        number(y, 1, 0, 1, 8, 5, 8);
        deletes(y, 2, 0, 0, 3, 9);
        row(y, 0, 2, 0, 3, 9);
    }

    private static void eachElementByItself() {
        Run x = running(CHECK, "for each element by itself");
        x.wave(1);
        x.put(0, L);
        x.put(3, H);
        x.gives(0).assign(0, 1, 0, 4, 1, 0);
        x.wave(2);
        x.put(0, L);
        x.put(2, ONE);
        x.put(3, L);
        x.gives(2).assign(0, 1, 0, 4, 0, 0);
        int[] due = {2, 2, 1, 1};
        for (int k = 0; k < 4; k++) {
            x.gives(due[k]).pending(0, 1, k);
        }
        x.gives(0).pending(1, 1, 0);
        lay(x, 1, ONE);
        x.gives(2).assign(0, 1, 1, 1, 1, 0);
        x.gives(2).pending(0, 1, 0);
        x.gives(1).pending(0, 1, 1);
        x.gives(1).pending(0, 1, 2);
    }

    private static void deletedForWhateverReason() {
        Run x = running(CHECK, "how many (old ones, for whatever reason) were deleted");
        number(x, 1, 0, 1, 10, 4, 40, 5, 50, 6, 66, 7, 70, 8, 80);
        deletes(x, 4, 2, 3, 7, 66, 9, 90);
        row(x, 0, 2, 0, 1, 10, 6, 66, 7, 66, 9, 90);
        Run y = running(CHECK, "none of the old ones was deleted");
        deletes(y, 0, 0, 0, 0, 1);
        deletes(y, 0, 1, 0, 1, 2);
    }

    private static void indexBeforeAll() {
        Run x = running(CHECK, "assign: IndexOutOfBoundsException is named first");
        x.refuses(INDEX).assign(3, 0, 0, 1, 0, 0);
        x.refuses(INDEX).assign(0, 3, 0, 1, 0, 0);
        x.refuses(INDEX).assign(0, 1, 4, 1, 0, 0);
        x.refuses(INDEX).assign(2, 1, 0, 5, 0, 0);
        x.refuses(INDEX).assign(2, 1, 0, 0, 3, 0);
        lay(x, 5, 9, 5, 9);
        x.refuses(INDEX).assign(0, 0, 0, 2, 0, 0);
        x.refuses(INDEX).assign(0, 1, 1, 4, 3, 0);
        x.refuses(INDEX).assign(-1, 0, 0, 1, 2, 6);
    }

    private static void stateBeforeArgument() {
        Run x = running(CHECK, "assign: IllegalStateException is named before the argument's");
        x.refuses(STATE).assign(0, 0, 0, 1, 3, 0);
        x.refuses(STATE).assign(0, 0, 0, 1, 2, -1);
        lay(x, 5, 9, 5, 9);
        x.refuses(STATE).assign(2, 0, 0, 1, -1, 0);
        x.refuses(STATE).assign(1, 2, 0, 1, 1, 0);
        x.suspend(0, false, NONE);
        x.refuses(STATE).assign(0, 0, 0, 1, 2, 6);
        x.refuses(STATE).assign(0, 0, 0, 1, 0, 0);
        x.refuses(ARGUMENT).assign(1, 0, 0, 1, 0, 0);
    }

    /**
     * 8191 transactions, the last 15 of them in the NUMBER, at times 1 and on; the rows of signals
     * 0 to 7 have 16 each, from time 1 on.
     */
    private static Run almostFull(String sentence) {
        Run x = new Run(CHECK, sentence, 1);
        for (int s = 0; s < 8; s++) {
            x.signal(ROW, s == 7 ? 63 : 64);
        }
        x.signal(NUMBER, 1);
        x.process();
        for (int s = 0; s < 9; s++) {
            x.drive(0, s);
        }
        x.start();
        for (int s = 0; s < 8; s++) {
            layMany(x, 16, 1);
            x.gives(0).assign(0, s, 0, s == 7 ? 63 : 64, 1, 0);
        }
        layMany(x, 15, 1);
        x.gives(0).assign(0, 8, 0, 1, 1, 0);
        return x;
    }

    private static void transactionsAreFull() {
        Run x = almostFull("all rows together may have 8192 transactions");
        lay(x, 16, 7);
        x.gives(0).assign(0, 8, 0, 1, 1, 0);
        x.gives(16).pending(0, 8, 0);
        x.gives(7).projected(0, 8, 0, 16);
        x.gives(16).pending(0, 0, 63);
        x.gives(1).next();
    }

    private static void oneMoreThanFull() {
        Run x = almostFull("assign: when there would be more than 8192 transactions");
        lay(x, 16, 7, 17, 8);
        x.refuses(STATE).assign(0, 8, 0, 1, 1, 0);
        x.refuses(STATE).assign(0, 0, 0, 1, 1, 0);
        x.gives(15).pending(0, 8, 0);
        x.drop();
        lay(x, 17, 0);
        x.refuses(STATE).assign(0, 0, 0, 2, 1, 0);
        x.gives(0).assign(0, 0, 1, 1, 1, 0);
        lay(x, 18, 0);
        x.refuses(STATE).assign(0, 0, 1, 1, 1, 0);
        x.refuses(STATE).assign(0, 8, 0, 1, 1, 0);
    }

    private static void oldOnesCountWithNewOnes() {
        Run x = almostFull("assign: the old ones counted with all new ones");
        layMany(x, 2, 1);
        for (int mode = 0; mode <= 2; mode++) {
            x.refuses(STATE).assign(0, 8, 0, 1, mode, 0);
        }
        x.refuses(STATE).assign(0, 0, 0, 64, 1, 0);
        x.drop();
        lay(x, 1, 7);
        x.gives(15).assign(0, 8, 0, 1, 1, 0);
        x.gives(1).pending(0, 8, 0);
    }

    private static void roomIsThereAgain() {
        Run x = almostFull("what was deleted is not counted any more");
        lay(x, 1, 7);
        x.gives(15).assign(0, 8, 0, 1, 1, 0);
        layMany(x, 15, 17);
        x.gives(0).assign(0, 8, 0, 1, 1, 0);
        lay(x, 32, 7);
        x.refuses(STATE).assign(0, 0, 0, 1, 1, 0);
        x.refuses(STATE).assign(0, 8, 0, 1, 1, 0);
    }

    private static void roomIsThereAgainWhenTimeGoesOn() {
        Run x = almostFull("transactions that are gone are not counted any more");
        lay(x, 16, 7);
        x.gives(0).assign(0, 8, 0, 1, 1, 0);
        lay(x, 100, 8);
        x.refuses(STATE).assign(0, 0, 0, 64, 1, 0);
        x.suspend(0, false, 1);
        x.gives(TIME).cycle();
        for (int s = 0; s < 8; s++) {
            x.gives(0).assign(0, s, 0, s == 7 ? 63 : 64, 1, 0);
            lay(x, 101, 8);
        }
        x.refuses(STATE).assign(0, 0, 0, 64, 1, 0);
        x.refuses(STATE).assign(0, 0, 0, 2, 1, 0);
        x.gives(0).assign(0, 8, 0, 1, 1, 0);
        lay(x, 102, 9);
        x.refuses(STATE).assign(0, 8, 0, 1, 1, 0);
    }

    private static void argumentBeforeTooMany() {
        Run x = almostFull("assign: too many is asked behind all these");
        layMany(x, 2, 5);
        x.refuses(ARGUMENT).assign(0, 8, 0, 1, 3, 0);
        x.refuses(ARGUMENT).assign(0, 8, 0, 1, 2, 6);
        x.refuses(ARGUMENT).assign(0, 8, 0, 1, 2, -1);
        x.put(0, 9);
        x.refuses(ARGUMENT).assign(0, 0, 0, 64, 1, 0);
        x.drop();
        x.wave(5);
        x.wave(5);
        x.refuses(ARGUMENT).assign(0, 8, 0, 1, 1, 0);
        x.drop();
        x.suspend(0, false, 1);
        x.gives(TIME).cycle();
        layMany(x, 8, 1);
        x.wave(LAST_TIME);
        x.refuses(ARGUMENT).assign(0, 0, 0, 64, 1, 0);
        x.drop();
        layMany(x, 8, 1);
        x.wave(LAST_TIME - 1);
        x.refuses(STATE).assign(0, 0, 0, 64, 1, 0);
    }

    private static void indexAndStateBeforeTooMany() {
        Run x = almostFull("assign: index and state before too many");
        layMany(x, 2, 5);
        x.refuses(INDEX).assign(0, 0, 0, 65, 1, 0);
        x.refuses(INDEX).assign(0, 9, 0, 1, 1, 0);
        x.refuses(INDEX).assign(1, 0, 0, 64, 1, 0);
        x.refuses(STATE).assign(0, 0, 0, 64, 1, 0);
    }

    private static void pendingWithoutADriver() {
        Run x = small(CHECK, "pending: NONE when it has no driver of it");
        x.gives(NONE).pending(1, 2, 0);
        x.gives(NONE).pending(2, 1, 3);
        x.gives(0).pending(1, 1, 3);
        x.start();
        x.gives(NONE).pending(1, 2, 0);
        x.gives(NONE).pending(2, 1, 3);
        x.gives(0).pending(1, 1, 3);
    }

    private static void pendingOfNoneAndMany() {
        Run x = running(CHECK, "pending: how many transactions its row has");
        x.gives(0).pending(0, 2, 0);
        for (int i = 0; i < 20; i++) {
            layMany(x, 16, 16L * i);
            x.gives(0).assign(0, 2, 0, 1, 1, 0);
            x.gives(16 * (i + 1)).pending(0, 2, 0);
        }
        x.end(1);
        x.end(2);
        x.suspend(0, false, NONE);
        x.gives(STEP).cycle();
        x.gives(319).pending(0, 2, 0);
        x.gives(TIME).cycle();
        x.gives(318).pending(0, 2, 0);
    }

    private static void pendingOfNoElement() {
        Run x = running(CHECK, "pending: no such process, signal, element");
        for (int i : new int[] {-1, 3, LEAST_INT, MOST_INT}) {
            x.refuses(INDEX).pending(i, 0, 0);
            x.refuses(INDEX).pending(0, i, 0);
        }
        for (int k : new int[] {-1, 4, 64, LEAST_INT, MOST_INT}) {
            x.refuses(INDEX).pending(0, 1, k);
            x.refuses(INDEX).pending(2, 1, k);
        }
        x.refuses(INDEX).pending(0, 0, 1);
        x.refuses(INDEX).pending(1, 2, 1);
    }

    private static void projectedAtNow() {
        Run x = running(CHECK, "projected: the value at a time, NOW among them");
        x.gives(0).projected(0, 2, 0, 0);
        number(x, 1, 0, 0, 11);
        x.gives(11).projected(0, 2, 0, 0);
        x.end(1);
        x.end(2);
        x.suspend(0, false, NONE);
        x.gives(STEP).cycle();
        x.gives(11).projected(0, 2, 0, 0);
        x.gives(11).projected(0, 2, 0, LAST_TIME);
    }

    private static void projectedBeforeNow() {
        Run x = running(CHECK, "projected: when the time is before NOW");
        x.refuses(ARGUMENT).projected(0, 2, 0, -1);
        x.refuses(ARGUMENT).projected(0, 2, 0, LEAST_LONG);
        x.gives(0).projected(0, 2, 0, 0);
        Run y = runningAt(CHECK, "projected: when the time is before a later NOW", 100);
        y.refuses(ARGUMENT).projected(0, 2, 0, 99);
        y.refuses(ARGUMENT).projected(0, 2, 0, 0);
        y.refuses(ARGUMENT).projected(0, 2, 0, -1);
        y.gives(0).projected(0, 2, 0, 100);
        Run z = runningAt(CHECK, "projected: when the time is before 2^60", LAST_TIME);
        z.refuses(ARGUMENT).projected(0, 2, 0, LAST_TIME - 1);
        z.gives(0).projected(0, 2, 0, LAST_TIME);
        z.gives(0).projected(0, 2, 0, MOST_LONG);
    }

    private static void projectedAtATransaction() {
        Run x = running(CHECK, "projected: from a transaction's time on");
        number(x, 1, 0, 5, 50, 6, 60, LAST_TIME, 70);
        x.gives(0).projected(0, 2, 0, 4);
        x.gives(50).projected(0, 2, 0, 5);
        x.gives(60).projected(0, 2, 0, 6);
        x.gives(60).projected(0, 2, 0, LAST_TIME - 1);
        x.gives(70).projected(0, 2, 0, LAST_TIME);
        x.gives(70).projected(0, 2, 0, LAST_TIME + 1);
        x.gives(70).projected(0, 2, 0, MOST_LONG);
    }

    private static void projectedWithoutADriver() {
        Run x = small(CHECK, "projected: 0 when it has no driver of it");
        x.first(2, 0, 44);
        x.first(1, 3, H);
        x.start();
        x.gives(44).projected(0, 2, 0, 0);
        x.gives(0).projected(1, 2, 0, 0);
        x.gives(H).projected(1, 1, 3, LAST_TIME);
        x.gives(0).projected(2, 1, 3, LAST_TIME);
    }

    private static void projectedBeforeTheStart() {
        Run x = small(CHECK, "projected: also before the start");
        x.first(2, 0, 44);
        x.gives(0).projected(0, 2, 0, 0);
        x.gives(0).projected(1, 2, 0, 0);
        x.gives(0).projected(0, 2, 0, LAST_TIME);
        x.refuses(ARGUMENT).projected(0, 2, 0, -1);
        x.start();
        x.gives(44).projected(0, 2, 0, 0);
    }

    private static void projectedOfNoElement() {
        Run x = running(CHECK, "projected: no such process, signal, element");
        for (int i : new int[] {-1, 3, LEAST_INT, MOST_INT}) {
            x.refuses(INDEX).projected(i, 0, 0, 0);
            x.refuses(INDEX).projected(0, i, 0, 0);
        }
        for (int k : new int[] {-1, 4, 64, LEAST_INT, MOST_INT}) {
            x.refuses(INDEX).projected(0, 1, k, 0);
            x.refuses(INDEX).projected(2, 1, k, 0);
        }
        x.refuses(INDEX).projected(0, 0, 1, 0);
        x.refuses(INDEX).projected(1, 2, 1, 0);
    }

    private static void projectedExceptionsInOrder() {
        Run x = running(CHECK, "projected: IndexOutOfBoundsException is named first");
        x.refuses(INDEX).projected(3, 0, 0, -1);
        x.refuses(INDEX).projected(0, 3, 0, -1);
        x.refuses(INDEX).projected(0, 1, 4, -1);
        x.refuses(ARGUMENT).projected(2, 1, 3, -1);
    }
}
