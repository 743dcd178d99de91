import java.util.List;
import java.util.function.LongSupplier;

/**
 * What an object answers from where it stands, as a text: two objects that differ in anything that
 * a caller could find out, also in what is laid down, differ in one of the three texts. What is
 * refused comes last: it could change both of them, so that they were the same again.
 */
final class Onward {
    private static final long LAST_TIME = 1L << 60;

    private final CycleKernel kernel;
    private final List<Integer> sizes;
    private final int processes;
    private final boolean started;
    private final StringBuilder seen = new StringBuilder();
    private int left;

    /** What the object was made of, whether it was started, and how many calls are left of it. */
    Onward(CycleKernel kernel, List<Integer> sizes, int processes, boolean started, int left) {
        this.kernel = kernel;
        this.sizes = sizes;
        this.processes = processes;
        this.started = started;
        this.left = left;
    }

    /** All that can be asked for without a change, and what can still be made. */
    String looked() {
        lookAtTimes();
        lookAtStates();
        for (int s : some(sizes.size())) {
            ask("marks " + s, () -> kernel.marks(s));
            for (int k : some(sizes.get(s))) {
                ask("value " + s + " " + k, () -> kernel.value(s, k, false));
                ask("last value " + s + " " + k, () -> kernel.value(s, k, true));
            }
        }
        lookAtRows();
        int signals = sizes.size();
        if (!started) {
            ask("signal", () -> kernel.signal(CycleKernel.NUMBER, 1));
            ask("drive", () -> doing(() -> kernel.drive(0, signals)));
            ask("process", kernel::process);
        }
        ask("state " + processes, () -> kernel.state(processes));
        ask("marks " + signals, () -> kernel.marks(signals));
        ask("start", () -> doing(kernel::start));
        return seen.toString();
    }

    /** The values that are laid down. */
    String assigned() {
        startIfNeeded();
        boolean done = false;
        for (int s : some(sizes.size())) {
            int p = firstThatCanAssign(s);
            if (p >= 0 && !done) {
                done = ask("assign " + p + " " + s,
                    () -> kernel.assign(p, s, 0, sizes.get(s), 1, 0)) >= 0
                    || ask("assign " + p + " " + s, () -> kernel.assign(p, s, 0, 1, 1, 0)) >= 0;
            }
        }
        lookAtRows();
        for (int i = 0; i <= 16 && !done; i++) {
            done = ask("wave", () -> doing(() -> kernel.wave(1))) < 0;
        }
        return seen.toString();
    }

    /**
     * How time goes on behind a change of one signal: it tells which signals are laid down, when
     * this is done for each of them by itself.
     */
    String wentOn(int changed) {
        startIfNeeded();
        long first = ask("which", () -> kernel.which(CycleKernel.RUNS, 0));
        if (first >= 0) {
            ask("suspend", () -> doing(() -> kernel.suspend((int) first, false, CycleKernel.NONE)));
        }
        ask("drop", () -> doing(kernel::drop));
        change(changed);
        for (int i = 0; i < 4; i++) {
            settle();
            ask("cycle", kernel::cycle);
            lookAtTimes();
            lookAtStates();
            for (int s : some(sizes.size())) {
                ask("value " + s, () -> kernel.value(s, 0, false));
            }
        }
        return seen.toString();
    }

    private void startIfNeeded() {
        if (!started) {
            ask("start", () -> doing(kernel::start));
        }
    }

    private int firstThatCanAssign(int s) {
        for (int p = 0; p < processes && p < 8; p++) {
            int process = p;
            if (ask("state " + p, () -> kernel.state(process)) == CycleKernel.RUNS
                    && ask("pending " + p, () -> kernel.pending(process, s, 0)) >= 0) {
                return p;
            }
        }
        return -1;
    }

    private void change(int s) {
        int p = s >= 0 && s < sizes.size() ? firstThatCanAssign(s) : -1;
        if (p >= 0) {
            long value = ask("value " + s, () -> kernel.value(s, 0, false));
            ask("wave", () -> doing(() -> kernel.wave(1)));
            ask("put", () -> doing(() -> kernel.put(0, value == 3 ? 2 : 3)));
            ask("assign", () -> kernel.assign(p, s, 0, 1, 1, 0));
        }
    }

    private void settle() {
        for (int i = 0; i < 64; i++) {
            long p = ask("which", () -> kernel.which(CycleKernel.ASKED, 0));
            if (p < 0) {
                break;
            }
            ask("answer", () -> doing(() -> kernel.answer((int) p, false)));
        }
        long now = ask("now", kernel::now);
        for (int i = 0; i < 64; i++) {
            long p = ask("which", () -> kernel.which(CycleKernel.RUNS, 0));
            if (p < 0) {
                break;
            }
            long delay = i == 0 && now <= LAST_TIME - 2 ? 2 : CycleKernel.NONE;
            ask("suspend", () -> doing(() -> kernel.suspend((int) p, false, delay)));
        }
    }

    private void lookAtTimes() {
        ask("now", kernel::now);
        ask("step", kernel::step);
        ask("next", kernel::next);
        for (int i = 0; i < 2; i++) {
            int at = i;
            ask("event " + i, () -> kernel.event(at));
            for (int state = 0; state < 4; state++) {
                int is = state;
                ask("which " + state + " " + i, () -> kernel.which(is, at));
            }
        }
    }

    private void lookAtStates() {
        for (int p = 0; p < processes && p < 8; p++) {
            int process = p;
            ask("state " + p, () -> kernel.state(process));
        }
    }

    private void lookAtRows() {
        long now = ask("now", kernel::now);
        for (int p : some(processes)) {
            for (int s : some(sizes.size())) {
                for (int k : some(sizes.get(s))) {
                    ask("pending " + p + " " + s + " " + k, () -> kernel.pending(p, s, k));
                    for (long time : new long[] {now, now + 2, now + 4, Long.MAX_VALUE}) {
                        ask("projected " + p + " " + s + " " + k + " at " + time,
                            () -> kernel.projected(p, s, k, time));
                    }
                }
            }
        }
    }

    /** The first two and the last of so many. */
    static int[] some(int count) {
        return switch (count) {
            case 0 -> new int[] {};
            case 1 -> new int[] {0};
            case 2 -> new int[] {0, 1};
            default -> new int[] {0, 1, count - 1};
        };
    }

    private static long doing(Runnable call) {
        call.run();
        return 0;
    }

    /** The answer, or a number below -1 for a call that throws or is no longer made. */
    private long ask(String text, LongSupplier call) {
        if (left == 0) {
            return -2;
        }
        left--;
        String got = Check.outcome(call);
        seen.append(text).append(" answered ").append(got).append('\n');
        return got.startsWith("throws.") ? -2 : Long.parseLong(got);
    }
}
