import java.util.ArrayDeque;
import java.util.Deque;
import java.util.Random;
import java.util.function.LongSupplier;

/**
 * Long runs, drawn from fixed seeds, on CycleKernel and on Model: every answer must be the same. A
 * run stays within the 512 calls that an object is promised for, and has wrong calls in it, so that
 * a call that throws and yet changes something shows later on.
 */
public final class RandomRunsTest {
    private static final Check CHECK = new Check("RandomRunsTest");
    private static final int RUNS = 8000;
    private static final int CALLS = 512;
    private static final long LAST = 1L << 60;

    private final Random draw;
    private final CycleKernel kernel;
    private final Model model;
    private final Deque<String> calls = new ArrayDeque<>();
    private int left = CALLS;
    private int signals;
    private int processes;
    private boolean failed;
    private boolean stuck;

    public static void main(String[] args) {
        int failures = 0;
        for (int seed = 0; seed < RUNS && failures < 5; seed++) {
            RandomRunsTest run = new RandomRunsTest(seed);
            run.go();
            if (run.failed) {
                failures++;
                System.out.println("seed " + seed + ": the latest calls were " + run.calls);
            }
        }
        CHECK.close();
    }

    private RandomRunsTest(int seed) {
        draw = new Random(seed * 7919L + 17);
        int limit = draw.nextInt(3) == 0 ? draw.nextInt(4) - 1 : 1 + draw.nextInt(60);
        kernel = new CycleKernel(limit);
        model = new Model(limit);
    }

    private void go() {
        setUp();
        while (left > 0 && !failed && !isOver()) {
            int kind = below(20);
            if (kind == 0) {
                makeOutOfTurn();
            } else if (kind < 8) {
                look();
            } else if (model.which(0, 0) != -1 && coin() || rarely()) {
                work();
            } else if (isAnyBusy() || rarely()) {
                rest();
            } else if (rarely()) {
                settle(index(processes));
            } else {
                goOn();
            }
        }
    }

    private boolean isAnyBusy() {
        return model.which(0, 0) != -1 || model.which(2, 0) != -1;
    }

    /** Nothing can happen any more, as behind QUIET or LIMIT: a new run is worth more. */
    private boolean isOver() {
        return stuck && !isAnyBusy() && below(10) == 0;
    }

    private void goOn() {
        call("cycle()", () -> {
            int answer = kernel.cycle();
            stuck = answer == CycleKernel.QUIET || answer == CycleKernel.LIMIT;
            return answer;
        }, model::cycle);
    }

    private int below(int n) {
        return draw.nextInt(n);
    }

    private boolean rarely() {
        return below(40) == 0;
    }

    /** Mostly 0 .. n - 1; now and then just outside, or far off. */
    private int index(int n) {
        if (rarely()) {
            int[] off = {-1, n, n + 1, Integer.MAX_VALUE, Integer.MIN_VALUE};
            return off[below(off.length)];
        }
        return n == 0 ? 0 : below(n);
    }

    private int elementValue() {
        if (rarely()) {
            int[] off = {-1, 9, Integer.MAX_VALUE, Integer.MIN_VALUE};
            return off[below(off.length)];
        }
        return below(3) == 0 ? below(9) : 2 + below(2);
    }

    private long delay() {
        if (rarely()) {
            long[] off = {-1, -2, LAST, LAST + 1, LAST - 1, LAST - 5, Long.MAX_VALUE,
                Long.MIN_VALUE};
            return off[below(off.length)];
        }
        return below(12);
    }

    private boolean coin() {
        return below(2) == 0;
    }

    private void call(String text, LongSupplier real, LongSupplier due) {
        if (left <= 0 || failed) {
            return;
        }
        left--;
        String want = Check.outcome(due);
        String got = Check.outcome(real);
        calls.add(text + " " + got);
        if (calls.size() > 60) {
            calls.removeFirst();
        }
        CHECK.due(text, got, want);
        failed = !got.equals(want);
    }

    private static LongSupplier quiet(Runnable run) {
        return () -> {
            run.run();
            return 0;
        };
    }

    private void setUp() {
        boolean large = below(8) == 0;
        int wantedSignals = 1 + below(large ? 40 : 6);
        int wantedProcesses = 1 + below(large ? 70 : 5);
        for (int i = 0; i < wantedSignals; i++) {
            makeSignal(large);
        }
        for (int i = 0; i < wantedProcesses; i++) {
            makeProcess();
        }
        int drives = 1 + below(4 * wantedSignals);
        for (int i = 0; i < drives; i++) {
            makeDriver();
        }
        for (int i = below(8); i > 0; i--) {
            makeFirst();
        }
        for (int i = below(6); i > 0; i--) {
            look();
        }
        if (rarely()) {
            work();
            rest();
        }
        call("start()", quiet(kernel::start), quiet(model::start));
    }

    private void makeSignal(boolean large) {
        int is = index(3);
        int n = is != 1 ? (rarely() ? index(3) : 1) : 1 + index(large ? 64 : 5);
        call("signal(" + is + ", " + n + ")", () -> {
            int s = kernel.signal(is, n);
            signals = s + 1;
            return s;
        }, () -> model.signal(is, n));
    }

    private void makeProcess() {
        call("process()", () -> {
            int p = kernel.process();
            processes = p + 1;
            return p;
        }, model::process);
    }

    private void makeDriver() {
        int p = index(processes);
        int s = index(signals);
        call("drive(" + p + ", " + s + ")", quiet(() -> kernel.drive(p, s)),
            quiet(() -> model.drive(p, s)));
    }

    private void makeFirst() {
        int s = index(signals);
        int k = index(coin() ? 1 : 4);
        int v = elementValue();
        call("first(" + s + ", " + k + ", " + v + ")", quiet(() -> kernel.first(s, k, v)),
            quiet(() -> model.first(s, k, v)));
    }

    private void makeOutOfTurn() {
        switch (below(6)) {
            case 0 -> makeSignal(false);
            case 1 -> makeProcess();
            case 2 -> makeDriver();
            case 3 -> makeFirst();
            case 4 -> goOn();
            default -> call("start()", quiet(kernel::start), quiet(model::start));
        }
    }

    /** A process that runs if there is one, or any. */
    private int someRunning() {
        if (rarely()) {
            return index(processes);
        }
        int found = -1;
        for (int tries = 0; tries < 4 && !drivesAny(found); tries++) {
            found = model.which(0, below(4));
        }
        if (found == -1) {
            found = model.which(0, 0);
        }
        return found == -1 ? index(processes) : found;
    }

    private boolean drivesAny(int p) {
        for (int s = 0; s < signals; s++) {
            if (driven(p, s)) {
                return true;
            }
        }
        return false;
    }

    private int drivenBy(int p) {
        for (int tries = 0; tries < 12; tries++) {
            int s = index(signals);
            if (driven(p, s)) {
                return s;
            }
        }
        return index(signals);
    }

    private boolean driven(int p, int s) {
        return p >= 0 && p < processes && s >= 0 && s < signals && model.pending(p, s, 0) >= 0;
    }

    private int sizeOf(int s) {
        int n = 0;
        while (n < 64 && !Check.outcome(valueAt(s, n)).startsWith("throws")) {
            n++;
        }
        return n;
    }

    private LongSupplier valueAt(int s, int k) {
        return () -> model.value(s, k, false);
    }

    private void work() {
        int p = someRunning();
        int s = drivenBy(p);
        int size = Math.max(1, sizeOf(s));
        int first = below(3) == 0 ? index(size) : 0;
        int n = rarely() ? index(size + 2) : 1 + below(Math.max(1, size - Math.max(0, first)));
        layWaves(n);
        int mode = rarely() ? index(3) : below(3);
        long limit = below(6) == 0 ? delay() : below(4);
        String text = "assign(" + p + ", " + s + ", " + first + ", " + n + ", " + mode + ", "
            + limit + ")";
        call(text, () -> kernel.assign(p, s, first, n, mode, limit),
            () -> model.assign(p, s, first, n, mode, limit));
        if (below(4) == 0) {
            call("drop()", quiet(kernel::drop), quiet(model::drop));
        }
    }

    private void layWaves(int n) {
        long delay = delay();
        int count = below(20) == 0 ? below(19) : 1 + below(4);
        for (int i = 0; i < count; i++) {
            long d = delay;
            call("wave(" + d + ")", quiet(() -> kernel.wave(d)), quiet(() -> model.wave(d)));
            for (int puts = below(3); puts >= 0; puts--) {
                int k = rarely() ? index(64) : below(Math.max(1, Math.min(n, 64)));
                int v = elementValue();
                call("put(" + k + ", " + v + ")", quiet(() -> kernel.put(k, v)),
                    quiet(() -> model.put(k, v)));
            }
            delay += rarely() ? 0 : 1 + below(3);
        }
    }

    private void rest() {
        int asked = model.which(2, 0);
        if (asked != -1 && !rarely()) {
            settle(asked);
            return;
        }
        int p = someRunning();
        if (below(25) == 0) {
            call("end(" + p + ")", quiet(() -> kernel.end(p)), quiet(() -> model.end(p)));
            return;
        }
        for (int i = below(4); i > 0; i--) {
            int s = index(signals);
            call("on(" + s + ")", quiet(() -> kernel.on(s)), quiet(() -> model.on(s)));
        }
        boolean question = coin();
        long delay = below(5) == 0 ? -1 : below(4) == 0 ? 0 : delay();
        call("suspend(" + p + ", " + question + ", " + delay + ")",
            quiet(() -> kernel.suspend(p, question, delay)),
            quiet(() -> model.suspend(p, question, delay)));
    }

    private void settle(int p) {
        if (below(8) == 0) {
            call("end(" + p + ")", quiet(() -> kernel.end(p)), quiet(() -> model.end(p)));
            return;
        }
        boolean yes = coin();
        call("answer(" + p + ", " + yes + ")", quiet(() -> kernel.answer(p, yes)),
            quiet(() -> model.answer(p, yes)));
    }

    private void look() {
        int p = index(processes);
        int s = coin() ? index(signals) : drivenBy(p);
        int k = index(Math.max(1, sizeOf(s)));
        int i = index(4);
        boolean last = coin();
        long time = model.now() + delay();
        switch (below(9)) {
            case 0 -> call("state(" + p + ")", () -> kernel.state(p), () -> model.state(p));
            case 1 -> call("which(" + i + ", " + k + ")", () -> kernel.which(i, k),
                () -> model.which(i, k));
            case 2 -> call("value(" + s + ", " + k + ", " + last + ")",
                () -> kernel.value(s, k, last), () -> model.value(s, k, last));
            case 3 -> call("marks(" + s + ")", () -> kernel.marks(s), () -> model.marks(s));
            case 4 -> call("event(" + i + ")", () -> kernel.event(i), () -> model.event(i));
            case 5 -> call("now()", kernel::now, model::now);
            case 6 -> {
                call("step()", kernel::step, model::step);
                call("next()", kernel::next, model::next);
            }
            case 7 -> call("pending(" + p + ", " + s + ", " + k + ")",
                () -> kernel.pending(p, s, k), () -> model.pending(p, s, k));
            default -> call("projected(" + p + ", " + s + ", " + k + ", " + time + ")",
                () -> kernel.projected(p, s, k, time), () -> model.projected(p, s, k, time));
        }
    }
}
