import java.util.ArrayList;
import java.util.List;
import java.util.function.Consumer;
import java.util.function.Function;
import java.util.function.ToLongFunction;

/**
 * A run of calls on one object, each with the answer that is due. A call that throws is made once
 * more, on a copy of the object, and this copy must then go on like one where it was not made: so
 * every refused call of every test is also asked whether it changed nothing.
 */
final class Run {
    /** The document promises nothing about an object behind them. */
    private static final int MOST_CALLS = 512;

    private final Check check;
    private final String sentence;
    private final int limit;
    private final CycleKernel kernel;
    private final List<ToLongFunction<CycleKernel>> changes = new ArrayList<>();
    private final List<Integer> sizes = new ArrayList<>();
    private int processes;
    private boolean started;
    private int calls;
    private String due;

    Run(Check check, String sentence, int limit) {
        this.check = check;
        this.sentence = sentence;
        this.limit = limit;
        this.kernel = new CycleKernel(limit);
    }

    /** What the next call must answer; without it, any answer that is no exception is right. */
    Run gives(long answer) {
        due = Long.toString(answer);
        return this;
    }

    Run refuses(Class<?> exception) {
        due = "throws." + exception.getSimpleName();
        return this;
    }

    void signal(int is, int n) {
        if (change("signal(" + is + ", " + n + ")", k -> k.signal(is, n))) {
            sizes.add(n);
        }
    }

    void process() {
        if (change("process()", CycleKernel::process)) {
            processes++;
        }
    }

    void drive(int process, int signal) {
        act("drive(" + process + ", " + signal + ")", k -> k.drive(process, signal));
    }

    void first(int signal, int k, int value) {
        act("first(" + signal + ", " + k + ", " + value + ")", x -> x.first(signal, k, value));
    }

    void start() {
        started |= act("start()", CycleKernel::start);
    }

    void wave(long delay) {
        act("wave(" + delay + ")", k -> k.wave(delay));
    }

    void put(int k, int value) {
        act("put(" + k + ", " + value + ")", x -> x.put(k, value));
    }

    void drop() {
        act("drop()", CycleKernel::drop);
    }

    void assign(int process, int signal, int first, int n, int mode, long limitOfMode) {
        change("assign(" + process + ", " + signal + ", " + first + ", " + n + ", " + mode + ", "
            + limitOfMode + ")", k -> k.assign(process, signal, first, n, mode, limitOfMode));
    }

    void on(int signal) {
        act("on(" + signal + ")", k -> k.on(signal));
    }

    void suspend(int process, boolean question, long delay) {
        act("suspend(" + process + ", " + question + ", " + delay + ")",
            k -> k.suspend(process, question, delay));
    }

    void end(int process) {
        act("end(" + process + ")", k -> k.end(process));
    }

    void answer(int process, boolean yes) {
        act("answer(" + process + ", " + yes + ")", k -> k.answer(process, yes));
    }

    void cycle() {
        change("cycle()", CycleKernel::cycle);
    }

    void state(int process) {
        make("state(" + process + ")", k -> k.state(process));
    }

    void which(int state, int i) {
        make("which(" + state + ", " + i + ")", k -> k.which(state, i));
    }

    void value(int signal, int k, boolean last) {
        make("value(" + signal + ", " + k + ", " + last + ")", x -> x.value(signal, k, last));
    }

    void marks(int signal) {
        make("marks(" + signal + ")", k -> k.marks(signal));
    }

    void event(int i) {
        make("event(" + i + ")", k -> k.event(i));
    }

    void now() {
        make("now()", CycleKernel::now);
    }

    void step() {
        make("step()", CycleKernel::step);
    }

    void next() {
        make("next()", CycleKernel::next);
    }

    void pending(int process, int signal, int k) {
        make("pending(" + process + ", " + signal + ", " + k + ")",
            x -> x.pending(process, signal, k));
    }

    void projected(int process, int signal, int k, long time) {
        make("projected(" + process + ", " + signal + ", " + k + ", " + time + ")",
            x -> x.projected(process, signal, k, time));
    }

    private boolean act(String text, Consumer<CycleKernel> call) {
        return change(text, k -> {
            call.accept(k);
            return 0;
        });
    }

    /** Answers whether it was taken. */
    private boolean change(String text, ToLongFunction<CycleKernel> call) {
        boolean taken = make(text, call);
        if (taken) {
            changes.add(call);
        }
        return taken;
    }

    private boolean make(String text, ToLongFunction<CycleKernel> call) {
        calls++;
        if (calls > MOST_CALLS) {
            check.due(sentence + ": the number of calls", calls, MOST_CALLS);
        }
        String got = Check.outcome(() -> call.applyAsLong(kernel));
        boolean taken = !got.startsWith("throws.");
        String want = due == null ? taken ? got : "no exception" : due;
        due = null;
        check.due(sentence + ": " + text, got, want);
        if (!taken) {
            changedNothing(text, call, Onward::looked);
            changedNothing(text, call, Onward::assigned);
            changedNothing(text, call, onward -> onward.wentOn(0));
            changedNothing(text, call, onward -> onward.wentOn(1));
            changedNothing(text, call, onward -> onward.wentOn(sizes.size() - 1));
        }
        return taken;
    }

    private void changedNothing(String text, ToLongFunction<CycleKernel> refused,
            Function<Onward, String> seen) {
        CycleKernel tried = copy();
        Check.outcome(() -> refused.applyAsLong(tried));
        check.same(sentence + ": behind the refused " + text,
            seen.apply(onward(tried)), seen.apply(onward(copy())));
    }

    private CycleKernel copy() {
        CycleKernel copy = new CycleKernel(limit);
        for (ToLongFunction<CycleKernel> change : changes) {
            Check.outcome(() -> change.applyAsLong(copy));
        }
        return copy;
    }

    private Onward onward(CycleKernel copy) {
        int left = Math.max(0, MOST_CALLS - changes.size() - 1);
        return new Onward(copy, sizes, processes, started, left);
    }
}
