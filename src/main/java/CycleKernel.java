/**
 * The cycle of a simulation: signals with drivers, time that goes on from one transaction to the
 * next, steps within a time, events, and which processes are to go on. What the processes do is
 * told by the caller; what their drivers are going to be is kept here.
 */
public final class CycleKernel {
    public static final int NONE = -1;
    public static final int LOGIC = 0, ROW = 1, NUMBER = 2;
    public static final int QUIET = 0, TIME = 1, STEP = 2, LIMIT = 3;
    public static final int RUNS = 0, WAITS = 1, ASKED = 2, ENDED = 3;

    private static final int MOST_STEPS = 100000;
    private static final int USUAL_STEPS = 1000;
    private static final int MOST_SIGNALS = 200;
    private static final int MOST_PROCESSES = 64;
    private static final int MOST_ELEMENTS = 512;
    private static final int MOST_TRANSACTIONS = 8192;
    private static final int MOST_WAVES = 16;
    private static final int WIDEST = 64;
    private static final long LAST_TIME = 1L << 60;

    private static final int MODE_FIRST_DELAY = 0;
    private static final int MODE_NO_LIMIT = 1;
    private static final int MODE_GIVEN_LIMIT = 2;

    private static final int U = 0, X = 1, ZERO = 2, ONE = 3, Z = 4, W = 5, FREE = 8;

    private final int stepLimit;
    private final Signal[] signals = new Signal[MOST_SIGNALS];
    private final Task[] tasks = new Task[MOST_PROCESSES];
    private final Store store = new Store();
    private final Waves waves = new Waves();
    private final SignalSet awaited = new SignalSet();
    private final SignalSet events = new SignalSet();
    private int signalCount;
    private int taskCount;
    private int elementCount;
    private int drivenCount;
    private boolean started;
    private long nowTime;
    private int nowStep;

    public CycleKernel(int limit) {
        stepLimit = limit >= 1 && limit <= MOST_STEPS ? limit : USUAL_STEPS;
    }

    public int signal(int is, int n) throws IllegalArgumentException, IllegalStateException {
        if (is < LOGIC || is > NUMBER) {
            throw new IllegalArgumentException("no such class of signals");
        }
        if (n < 1 || n > (is == ROW ? WIDEST : 1)) {
            throw new IllegalArgumentException("no such number of elements");
        }
        if (started || signalCount >= MOST_SIGNALS || n > MOST_ELEMENTS - elementCount) {
            throw new IllegalStateException("no more signals");
        }
        signals[signalCount] = new Signal(is, n);
        elementCount += n;
        return signalCount++;
    }

    public int process() throws IllegalStateException {
        if (started || taskCount >= MOST_PROCESSES) {
            throw new IllegalStateException("no more processes");
        }
        tasks[taskCount] = new Task();
        return taskCount++;
    }

    public void drive(int process, int signal)
            throws IndexOutOfBoundsException, IllegalStateException {
        taskOf(process);
        Signal driven = signalOf(signal);
        if (started) {
            throw new IllegalStateException("behind the start");
        }
        if (driven.driverOf(process) != null) {
            return;
        }
        if (driven.is == NUMBER && driven.drivers != null) {
            throw new IllegalStateException("a number has one driver at most");
        }
        if (driven.size > MOST_ELEMENTS - drivenCount) {
            throw new IllegalStateException("too many elements of drivers");
        }
        driven.drivers = new Driver(process, driven.size, store, driven.drivers);
        drivenCount += driven.size;
    }

    public void first(int signal, int k, int value)
            throws IndexOutOfBoundsException, IllegalArgumentException, IllegalStateException {
        Signal changed = signalOf(signal);
        checkElements(changed, k, 1);
        if (!changed.canHave(value)) {
            throw new IllegalArgumentException("no value of logic");
        }
        if (started) {
            throw new IllegalStateException("behind the start");
        }
        changed.values[k] = value;
    }

    public void start() throws IllegalStateException {
        if (started) {
            throw new IllegalStateException("behind the start");
        }
        started = true;
        for (int s = 0; s < signalCount; s++) {
            signals[s].begin();
        }
        for (int p = 0; p < taskCount; p++) {
            tasks[p].state = RUNS;
        }
    }

    public void wave(long delay) throws IllegalArgumentException, IllegalStateException {
        if (delay < 0 || delay > LAST_TIME) {
            throw new IllegalArgumentException("no such delay");
        }
        if (waves.count >= MOST_WAVES) {
            throw new IllegalStateException("too many values are laid down");
        }
        waves.add(delay);
    }

    public void put(int k, int value) throws IndexOutOfBoundsException, IllegalStateException {
        if (k < 0 || k >= WIDEST) {
            throw new IndexOutOfBoundsException("no such element");
        }
        if (waves.count == 0) {
            throw new IllegalStateException("no value is laid down");
        }
        waves.setLatest(k, value);
    }

    public void drop() {
        waves.count = 0;
        awaited.clear();
    }

    public int assign(int process, int signal, int first, int n, int mode, long limit)
            throws IndexOutOfBoundsException, IllegalStateException, IllegalArgumentException {
        Task task = taskOf(process);
        Signal assigned = signalOf(signal);
        checkElements(assigned, first, n);
        Driver driver = assigned.driverOf(process);
        if (task.state != RUNS || driver == null || waves.count == 0) {
            throw new IllegalStateException("nothing can be assigned");
        }
        if (!fitsMode(mode, limit) || !fitsTime() || !waves.fit(assigned, n)) {
            throw new IllegalArgumentException("this can't be assigned");
        }
        if (n * waves.count > MOST_TRANSACTIONS - store.inUse) {
            throw new IllegalStateException("too many transactions");
        }
        long keptBack = mode == MODE_FIRST_DELAY ? waves.delays[0] : limit;
        int deleted = 0;
        for (int k = 0; k < n; k++) {
            deleted += assignElement(driver.rows[first + k], k, mode != MODE_NO_LIMIT, keptBack);
        }
        waves.count = 0;
        return deleted;
    }

    public void on(int signal) throws IndexOutOfBoundsException {
        signalOf(signal);
        awaited.add(signal);
    }

    public void suspend(int process, boolean question, long delay)
            throws IndexOutOfBoundsException, IllegalArgumentException, IllegalStateException {
        Task task = taskOf(process);
        // Asked as a difference, because the sum with NOW could wrap round.
        if (delay < NONE || delay > LAST_TIME - nowTime) {
            throw new IllegalArgumentException("no such delay");
        }
        if (task.state != RUNS) {
            throw new IllegalStateException("the process does not run");
        }
        task.state = WAITS;
        task.question = question;
        task.until = delay == NONE ? NONE : nowTime + delay;
        task.awaited.copy(awaited);
        awaited.clear();
    }

    public void end(int process) throws IndexOutOfBoundsException, IllegalStateException {
        Task task = taskOf(process);
        if (!task.isBusy()) {
            throw new IllegalStateException("the process neither runs nor is asked");
        }
        task.state = ENDED;
    }

    public void answer(int process, boolean yes)
            throws IndexOutOfBoundsException, IllegalStateException {
        Task task = taskOf(process);
        if (task.state != ASKED) {
            throw new IllegalStateException("the process is not asked");
        }
        task.state = yes ? RUNS : WAITS;
    }

    public int cycle() throws IllegalStateException {
        if (!started || isAnyBusy()) {
            throw new IllegalStateException("no cycle can be made");
        }
        long time = nextTime();
        if (time == NONE) {
            return QUIET;
        }
        boolean sameTime = time == nowTime;
        if (sameTime && nowStep >= stepLimit) {
            return LIMIT;
        }
        nowStep = sameTime ? nowStep + 1 : 0;
        nowTime = time;
        updateSignals();
        wakeTasks();
        return sameTime ? STEP : TIME;
    }

    public int state(int process) throws IndexOutOfBoundsException {
        return taskOf(process).state;
    }

    public int which(int state, int i) throws IllegalArgumentException {
        if (state < RUNS || state > ENDED) {
            throw new IllegalArgumentException("no such state");
        }
        int before = 0;
        for (int p = 0; p < taskCount; p++) {
            if (tasks[p].state == state) {
                if (before == i) {
                    return p;
                }
                before++;
            }
        }
        return NONE;
    }

    public int value(int signal, int k, boolean last) throws IndexOutOfBoundsException {
        Signal shown = signalOf(signal);
        checkElements(shown, k, 1);
        return last ? shown.lastValues[k] : shown.values[k];
    }

    public int marks(int signal) throws IndexOutOfBoundsException {
        Signal shown = signalOf(signal);
        if (events.has(signal)) {
            return 3;
        }
        return shown.active ? 1 : 0;
    }

    public int event(int i) {
        int before = 0;
        for (int s = 0; s < signalCount; s++) {
            if (events.has(s)) {
                if (before == i) {
                    return s;
                }
                before++;
            }
        }
        return NONE;
    }

    public long now() {
        return nowTime;
    }

    public int step() {
        return nowStep;
    }

    public long next() {
        return nextTime();
    }

    public int pending(int process, int signal, int k) throws IndexOutOfBoundsException {
        taskOf(process);
        Signal shown = signalOf(signal);
        checkElements(shown, k, 1);
        Driver driver = shown.driverOf(process);
        return driver == null ? NONE : driver.rows[k].length();
    }

    public int projected(int process, int signal, int k, long time)
            throws IndexOutOfBoundsException, IllegalArgumentException {
        taskOf(process);
        Signal shown = signalOf(signal);
        checkElements(shown, k, 1);
        if (time < nowTime) {
            throw new IllegalArgumentException("the time is before now");
        }
        Driver driver = shown.driverOf(process);
        return driver == null ? 0 : driver.rows[k].valueAt(time);
    }

    private Task taskOf(int process) {
        if (process < 0 || process >= taskCount) {
            throw new IndexOutOfBoundsException("no such process");
        }
        return tasks[process];
    }

    private Signal signalOf(int signal) {
        if (signal < 0 || signal >= signalCount) {
            throw new IndexOutOfBoundsException("no such signal");
        }
        return signals[signal];
    }

    private static void checkElements(Signal signal, int from, int n) {
        // Asked as a difference, because the sum of from and n could wrap round.
        if (from < 0 || from >= signal.size || n < 1 || n > signal.size - from) {
            throw new IndexOutOfBoundsException("no such element");
        }
    }

    private boolean fitsMode(int mode, long limit) {
        if (mode == MODE_GIVEN_LIMIT) {
            return limit >= 0 && limit <= waves.delays[0];
        }
        return mode == MODE_FIRST_DELAY || mode == MODE_NO_LIMIT;
    }

    private boolean fitsTime() {
        return waves.rise() && waves.latestDelay() <= LAST_TIME - nowTime;
    }

    private int assignElement(Row row, int k, boolean limited, long keptBack) {
        long from = nowTime + waves.delays[0];
        int deleted = row.deleteFrom(from);
        if (limited) {
            deleted += row.deleteOthers(from - keptBack, waves.elementOf(0, k));
        }
        Transaction last = row.lastBefore(from);
        for (int i = 0; i < waves.count; i++) {
            last = row.addBehind(last, nowTime + waves.delays[i], waves.elementOf(i, k));
        }
        return deleted;
    }

    private boolean isAnyBusy() {
        for (int p = 0; p < taskCount; p++) {
            if (tasks[p].isBusy()) {
                return true;
            }
        }
        return false;
    }

    private long nextTime() {
        long least = NONE;
        for (int s = 0; s < signalCount; s++) {
            least = sooner(least, signals[s].soonest());
        }
        for (int p = 0; p < taskCount; p++) {
            least = sooner(least, tasks[p].waitsUntil());
        }
        return least;
    }

    private static long sooner(long a, long b) {
        if (a == NONE) {
            return b;
        }
        return b == NONE || a <= b ? a : b;
    }

    private void updateSignals() {
        events.clear();
        for (int s = 0; s < signalCount; s++) {
            Signal signal = signals[s];
            signal.active = signal.takeDue(nowTime);
            if (signal.active && signal.update()) {
                events.add(s);
            }
        }
    }

    private void wakeTasks() {
        for (int p = 0; p < taskCount; p++) {
            Task task = tasks[p];
            if (task.state == WAITS) {
                task.wake(nowTime, events);
            }
        }
    }

    /** A process, by what it is and what it waits for. */
    private static final class Task {
        final SignalSet awaited = new SignalSet();
        int state = WAITS;
        boolean question;
        long until = NONE;

        boolean isBusy() {
            return state == RUNS || state == ASKED;
        }

        long waitsUntil() {
            return state == WAITS || state == ASKED ? until : NONE;
        }

        void wake(long time, SignalSet events) {
            if (until == time) {
                state = RUNS;
            } else if (awaited.meets(events)) {
                state = question ? ASKED : RUNS;
            }
        }
    }

    /** A signal with the chain of its drivers. */
    private static final class Signal {
        final int is;
        final int size;
        final int[] values;
        final int[] lastValues;
        Driver drivers;
        boolean active;

        Signal(int is, int size) {
            this.is = is;
            this.size = size;
            values = new int[size];
            lastValues = new int[size];
        }

        boolean canHave(int value) {
            return is == NUMBER || value >= U && value <= FREE;
        }

        Driver driverOf(int process) {
            for (Driver d = drivers; d != null; d = d.other) {
                if (d.process == process) {
                    return d;
                }
            }
            return null;
        }

        void begin() {
            for (int k = 0; k < size; k++) {
                for (Driver d = drivers; d != null; d = d.other) {
                    d.rows[k].value = values[k];
                }
                values[k] = together(k);
                lastValues[k] = values[k];
            }
        }

        long soonest() {
            long least = NONE;
            for (Driver d = drivers; d != null; d = d.other) {
                for (int k = 0; k < size; k++) {
                    least = sooner(least, d.rows[k].soonest());
                }
            }
            return least;
        }

        boolean takeDue(long time) {
            boolean taken = false;
            for (Driver d = drivers; d != null; d = d.other) {
                for (int k = 0; k < size; k++) {
                    if (d.rows[k].takeDue(time)) {
                        taken = true;
                    }
                }
            }
            return taken;
        }

        /** Answers whether the value became another one. */
        boolean update() {
            boolean changes = false;
            for (int k = 0; k < size; k++) {
                if (together(k) != values[k]) {
                    changes = true;
                }
            }
            if (changes) {
                for (int k = 0; k < size; k++) {
                    lastValues[k] = values[k];
                    values[k] = together(k);
                }
            }
            return changes;
        }

        private int together(int k) {
            if (drivers == null) {
                return values[k];
            }
            return is == NUMBER ? drivers.rows[k].value : logicTogether(k);
        }

        private int logicTogether(int k) {
            boolean unset = false;
            boolean unknown = false;
            boolean zero = false;
            boolean one = false;
            int weak = Z;
            for (Driver d = drivers; d != null; d = d.other) {
                int v = d.rows[k].value;
                unset = unset || v == U;
                unknown = unknown || v == X || v == FREE;
                zero = zero || v == ZERO;
                one = one || v == ONE;
                if (v != Z) {
                    weak = weak == Z || weak == v ? v : W;
                }
            }
            if (unset) {
                return U;
            }
            if (unknown || zero && one) {
                return X;
            }
            if (zero) {
                return ZERO;
            }
            return one ? ONE : weak;
        }
    }

    /** A process's driver of a signal, with a row for each element. */
    private static final class Driver {
        final int process;
        final Row[] rows;
        final Driver other;

        Driver(int process, int size, Store store, Driver other) {
            this.process = process;
            this.other = other;
            rows = new Row[size];
            for (int k = 0; k < size; k++) {
                rows[k] = new Row(store);
            }
        }
    }

    /** The value of a driver's element, and its transactions in rising times. */
    private static final class Row {
        private final Store store;
        private Transaction head;
        int value;

        Row(Store store) {
            this.store = store;
        }

        int length() {
            int n = 0;
            for (Transaction t = head; t != null; t = t.later) {
                n++;
            }
            return n;
        }

        long soonest() {
            return head == null ? NONE : head.time;
        }

        int valueAt(long time) {
            int found = value;
            for (Transaction t = head; t != null && t.time <= time; t = t.later) {
                found = t.value;
            }
            return found;
        }

        boolean takeDue(long time) {
            value = valueAt(time);
            Transaction kept = head;
            while (kept != null && kept.time <= time) {
                kept = kept.later;
            }
            return deleteBetween(null, kept) > 0;
        }

        Transaction lastBefore(long time) {
            Transaction found = null;
            for (Transaction t = head; t != null && t.time < time; t = t.later) {
                found = t;
            }
            return found;
        }

        int deleteFrom(long time) {
            return deleteBetween(lastBefore(time), null);
        }

        /**
         * Of the transactions from a time on, only those at the row's end stay that all have the
         * value which comes behind them: a mark goes from one to the one before it, and no
         * further than to the first that has another value.
         */
        int deleteOthers(long time, int coming) {
            Transaction before = lastBefore(time);
            Transaction kept = before == null ? head : before.later;
            for (Transaction t = kept; t != null; t = t.later) {
                if (t.value != coming) {
                    kept = t.later;
                }
            }
            return deleteBetween(before, kept);
        }

        /** Without a last one the new one becomes the row's first. */
        Transaction addBehind(Transaction last, long time, int newValue) {
            Transaction added = store.take(time, newValue);
            join(last, added);
            return added;
        }

        /** Deletes what stands between two that stay; null is the row's edge on that side. */
        private int deleteBetween(Transaction before, Transaction kept) {
            int deleted = 0;
            Transaction t = before == null ? head : before.later;
            while (t != null && t != kept) {
                Transaction later = t.later;
                store.giveBack(t);
                t = later;
                deleted++;
            }
            join(before, t);
            return deleted;
        }

        private void join(Transaction before, Transaction behind) {
            if (before == null) {
                head = behind;
            } else {
                before.later = behind;
            }
        }
    }

    /** A value at a time, in the chain of its row. */
    private static final class Transaction {
        long time;
        int value;
        Transaction later;
    }

    /** Counts the transactions of all rows, and keeps deleted ones to be used again. */
    private static final class Store {
        int inUse;
        private Transaction idle;

        Transaction take(long time, int value) {
            Transaction taken = idle;
            if (taken == null) {
                taken = new Transaction();
            } else {
                idle = taken.later;
            }
            taken.time = time;
            taken.value = value;
            taken.later = null;
            inUse++;
            return taken;
        }

        void giveBack(Transaction gone) {
            gone.later = idle;
            idle = gone;
            inUse--;
        }
    }

    /** The values with delays that are laid down for the next assignment. */
    private static final class Waves {
        final long[] delays = new long[MOST_WAVES];
        private final int[] elements = new int[MOST_WAVES * WIDEST];
        int count;

        void add(long delay) {
            delays[count] = delay;
            int from = count * WIDEST;
            for (int k = 0; k < WIDEST; k++) {
                elements[from + k] = 0;
            }
            count++;
        }

        void setLatest(int k, int value) {
            elements[(count - 1) * WIDEST + k] = value;
        }

        int elementOf(int i, int k) {
            return elements[i * WIDEST + k];
        }

        long latestDelay() {
            return delays[count - 1];
        }

        boolean rise() {
            for (int i = 1; i < count; i++) {
                if (delays[i] <= delays[i - 1]) {
                    return false;
                }
            }
            return true;
        }

        boolean fit(Signal signal, int n) {
            for (int i = 0; i < count; i++) {
                for (int k = 0; k < n; k++) {
                    if (!signal.canHave(elementOf(i, k))) {
                        return false;
                    }
                }
            }
            return true;
        }
    }

    /** A set of signals' numbers. */
    private static final class SignalSet {
        private final long[] words = new long[(MOST_SIGNALS + 63) / 64];

        void add(int signal) {
            words[signal >> 6] |= 1L << (signal & 63);
        }

        boolean has(int signal) {
            return (words[signal >> 6] >> (signal & 63) & 1) != 0;
        }

        boolean meets(SignalSet other) {
            for (int i = 0; i < words.length; i++) {
                if ((words[i] & other.words[i]) != 0) {
                    return true;
                }
            }
            return false;
        }

        void copy(SignalSet other) {
            for (int i = 0; i < words.length; i++) {
                words[i] = other.words[i];
            }
        }

        void clear() {
            for (int i = 0; i < words.length; i++) {
                words[i] = 0;
            }
        }
    }
}
