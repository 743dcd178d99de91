import java.util.List;
import java.util.function.LongSupplier;

/**
 * What an object answers from where it stands, as a text: two objects that differ in anything that
 * a caller could find out, also in what is laid down, differ in one of the three texts.
 */
final class Onward {
    private final CycleKernel kernel;
    private final List<Integer> sizes;
    private final int processes;
    private final StringBuilder seen = new StringBuilder();
    private int left;

    /** The sizes of the object's signals, how many processes it has, and what it may be asked. */
    Onward(CycleKernel kernel, List<Integer> sizes, int processes, int left) {
        this.kernel = kernel;
        this.sizes = sizes;
        this.processes = processes;
        this.left = left;
    }

    /** All that can be asked for without a change. */
    String looked() {
        lookAtTimes();
        for (int p : some(processes)) {
            ask("state " + p, () -> kernel.state(p));
        }
        for (int s : some(sizes.size())) {
            ask("marks " + s, () -> kernel.marks(s));
            for (int k : some(sizeOf(s))) {
                ask("value " + s + " " + k, () -> kernel.value(s, k, false));
                ask("last value " + s + " " + k, () -> kernel.value(s, k, true));
            }
        }
        lookAtRows();
        return seen.toString();
    }

    /** What is still free before the start, and the values that are laid down. */
    String assigned() {
        ask("signal", () -> kernel.signal(CycleKernel.NUMBER, 1));
        ask("process", kernel::process);
        ask("drive", () -> doing(() -> kernel.drive(0, sizes.size())));
        ask("start", () -> doing(kernel::start));
        boolean done = false;
        for (int p : some(processes)) {
            for (int s : some(sizes.size())) {
                done |= ask("assign " + p + " " + s,
                    () -> kernel.assign(p, s, 0, sizeOf(s), 1, 0)) >= 0;
            }
        }
        for (int i = 0; i <= 16 && !done; i++) {
            done = ask("wave", () -> doing(() -> kernel.wave(1))) < 0;
        }
        lookAtRows();
        return seen.toString();
    }

    /** The signals that are laid down, and how time goes on. */
    String wentOn() {
        ask("start", () -> doing(kernel::start));
        long first = ask("which", () -> kernel.which(CycleKernel.RUNS, 0));
        ask("suspend", () -> doing(() -> kernel.suspend((int) first, false, CycleKernel.NONE)));
        ask("drop", () -> doing(kernel::drop));
        changeSignals();
        for (int i = 0; i < 4; i++) {
            settle();
            ask("cycle", kernel::cycle);
            lookAtTimes();
            for (int p : some(processes)) {
                ask("state " + p, () -> kernel.state(p));
            }
            for (int s : some(sizes.size())) {
                ask("value " + s, () -> kernel.value(s, 0, false));
            }
        }
        return seen.toString();
    }

    private void changeSignals() {
        for (int s : some(sizes.size())) {
            long value = ask("value " + s, () -> kernel.value(s, 0, false));
            ask("wave", () -> doing(() -> kernel.wave(s + 1L)));
            ask("put", () -> doing(() -> kernel.put(0, value == 3 ? 2 : 3)));
            boolean done = false;
            for (int p = 0; p < processes && p < 4 && !done; p++) {
                int process = p;
                done = ask("assign", () -> kernel.assign(process, s, 0, 1, 1, 0)) >= 0;
            }
            ask("drop", () -> doing(kernel::drop));
        }
    }

    private void settle() {
        for (int i = 0; i < 64; i++) {
            long p = ask("which", () -> kernel.which(CycleKernel.ASKED, 0));
            if (p < 0) {
                break;
            }
            ask("answer", () -> doing(() -> kernel.answer((int) p, false)));
        }
        for (int i = 0; i < 64; i++) {
            long p = ask("which", () -> kernel.which(CycleKernel.RUNS, 0));
            if (p < 0) {
                break;
            }
            long delay = i == 0 ? 2 : CycleKernel.NONE;
            ask("suspend", () -> doing(() -> kernel.suspend((int) p, false, delay)));
        }
    }

    private void lookAtTimes() {
        ask("now", kernel::now);
        ask("step", kernel::step);
        ask("next", kernel::next);
        for (int i = 0; i < 2; i++) {
            int at = i;
            ask("event " + i, () -> kernel.event(at));
            for (int state = 0; state < 4; state++) {
                int is = state;
                ask("which " + state + " " + i, () -> kernel.which(is, at));
            }
        }
    }

    private void lookAtRows() {
        long now = ask("now", kernel::now);
        for (int p : some(processes)) {
            for (int s : some(sizes.size())) {
                for (int k : some(sizeOf(s))) {
                    ask("pending " + p + " " + s + " " + k, () -> kernel.pending(p, s, k));
                    for (long d = 0; d <= 4; d += 2) {
                        long time = now + d;
                        ask("projected " + p + " " + s + " " + k + " in " + d,
                            () -> kernel.projected(p, s, k, time));
                    }
                }
            }
        }
    }

    /** The first two, the last, and one that should not be there. */
    private static int[] some(int count) {
        return switch (count) {
            case 0 -> new int[] {0};
            case 1 -> new int[] {0, 1};
            case 2 -> new int[] {0, 1, 2};
            default -> new int[] {0, 1, count - 1, count};
        };
    }

    private int sizeOf(int s) {
        return s < sizes.size() ? sizes.get(s) : 1;
    }

    private static long doing(Runnable call) {
        call.run();
        return 0;
    }

    /** The answer, or a number below -1 for a call that throws or is no longer made. */
    private long ask(String text, LongSupplier call) {
        if (left == 0) {
            return -2;
        }
        left--;
        String got = Check.outcome(call);
        seen.append(text).append(" answered ").append(got).append('\n');
        return got.startsWith("throws.") ? -2 : Long.parseLong(got);
    }
}
