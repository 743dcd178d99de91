import java.util.ArrayList;
import java.util.List;
import java.util.Set;
import java.util.TreeSet;

/**
 * The document once more, word by word and without any care for speed: what CycleKernel answers in
 * long runs is compared with it.
 */
final class Model {
    private static final long LAST = 1L << 60;

    private static final class Change {
        final long time;
        final int value;
        boolean marked;

        Change(long time, int value) {
            this.time = time;
            this.value = value;
        }
    }

    private static final class Line {
        int is;
        int[] value;
        int[] last;
        boolean active;
        boolean event;
    }

    private static final class Driver {
        int process;
        int signal;
        int[] value;
        List<List<Change>> rows = new ArrayList<>();
    }

    private static final class Proc {
        int state = 1;
        Set<Integer> signals = new TreeSet<>();
        boolean question;
        boolean hasTime;
        long time;
    }

    private final int limit;
    private boolean started;
    private long now;
    private int step;
    private final List<Line> lines = new ArrayList<>();
    private final List<Driver> drivers = new ArrayList<>();
    private final List<Proc> procs = new ArrayList<>();
    private final List<Long> delays = new ArrayList<>();
    private final List<int[]> laid = new ArrayList<>();
    private final Set<Integer> on = new TreeSet<>();

    Model(int limit) {
        this.limit = limit < 1 || limit > 100000 ? 1000 : limit;
    }

    private static void index(boolean wrong) {
        if (wrong) {
            throw new IndexOutOfBoundsException();
        }
    }

    private static void argument(boolean wrong) {
        if (wrong) {
            throw new IllegalArgumentException();
        }
    }

    private static void state(boolean wrong) {
        if (wrong) {
            throw new IllegalStateException();
        }
    }

    private boolean noSignal(int s) {
        return s < 0 || s >= lines.size();
    }

    private boolean noProcess(int p) {
        return p < 0 || p >= procs.size();
    }

    private boolean noElement(int s, int k) {
        return noSignal(s) || k < 0 || k >= lines.get(s).value.length;
    }

    private Driver driver(int p, int s) {
        return drivers.stream().filter(d -> d.process == p && d.signal == s).findFirst()
            .orElse(null);
    }

    int signal(int is, int n) {
        argument(is != 0 && is != 1 && is != 2);
        argument(is == 1 ? n < 1 || n > 64 : n != 1);
        state(lines.size() == 200);
        state(lines.stream().mapToInt(l -> l.value.length).sum() + n > 512);
        state(started);
        Line line = new Line();
        line.is = is;
        line.value = new int[n];
        line.last = new int[n];
        lines.add(line);
        return lines.size() - 1;
    }

    int process() {
        state(procs.size() == 64);
        state(started);
        procs.add(new Proc());
        return procs.size() - 1;
    }

    void drive(int p, int s) {
        index(noProcess(p));
        index(noSignal(s));
        state(started);
        if (driver(p, s) != null) {
            return;
        }
        state(lines.get(s).is == 2 && drivers.stream().anyMatch(d -> d.signal == s));
        int n = lines.get(s).value.length;
        state(drivers.stream().mapToInt(d -> d.value.length).sum() + n > 512);
        Driver d = new Driver();
        d.process = p;
        d.signal = s;
        d.value = new int[n];
        for (int k = 0; k < n; k++) {
            d.rows.add(new ArrayList<>());
        }
        drivers.add(d);
    }

    void first(int s, int k, int value) {
        index(noElement(s, k));
        argument(lines.get(s).is != 2 && (value < 0 || value > 8));
        state(started);
        lines.get(s).value[k] = value;
    }

    void start() {
        state(started);
        started = true;
        for (Driver d : drivers) {
            d.value = lines.get(d.signal).value.clone();
        }
        for (int s = 0; s < lines.size(); s++) {
            lines.get(s).value = together(s);
            lines.get(s).last = lines.get(s).value.clone();
        }
        procs.forEach(p -> p.state = 0);
    }

    private int[] together(int s) {
        int[] made = lines.get(s).value.clone();
        for (int k = 0; k < made.length; k++) {
            List<Integer> all = new ArrayList<>();
            for (Driver d : drivers) {
                if (d.signal == s) {
                    all.add(d.value[k]);
                }
            }
            if (!all.isEmpty()) {
                made[k] = lines.get(s).is == 2 ? all.get(0) : together(all);
            }
        }
        return made;
    }

    private static int together(List<Integer> all) {
        if (all.contains(0)) {
            return 0;
        }
        if (all.contains(1) || all.contains(8) || all.contains(2) && all.contains(3)) {
            return 1;
        }
        if (all.contains(2)) {
            return 2;
        }
        if (all.contains(3)) {
            return 3;
        }
        Set<Integer> notZ = new TreeSet<>(all);
        notZ.remove(4);
        if (notZ.isEmpty()) {
            return 4;
        }
        return notZ.size() == 1 ? notZ.iterator().next() : 5;
    }

    void wave(long delay) {
        argument(delay < 0 || delay > LAST);
        state(delays.size() == 16);
        delays.add(delay);
        laid.add(new int[64]);
    }

    void put(int k, int value) {
        index(k < 0 || k > 63);
        state(laid.isEmpty());
        laid.get(laid.size() - 1)[k] = value;
    }

    void drop() {
        delays.clear();
        laid.clear();
        on.clear();
    }

    int assign(int p, int s, int first, int n, int mode, long given) {
        index(noProcess(p) || noElement(s, first) || n < 1);
        index((long) first + n > lines.get(s).value.length);
        state(procs.get(p).state != 0);
        state(driver(p, s) == null);
        state(delays.isEmpty());
        argument(mode < 0 || mode > 2);
        for (int i = 0; i < delays.size(); i++) {
            argument(i > 0 && delays.get(i) <= delays.get(i - 1));
            argument(now + delays.get(i) > LAST);
            for (int k = 0; k < n; k++) {
                int v = laid.get(i)[k];
                argument(lines.get(s).is != 2 && (v < 0 || v > 8));
            }
        }
        argument(mode == 2 && (given < 0 || given > delays.get(0)));
        int old = drivers.stream().flatMap(d -> d.rows.stream()).mapToInt(List::size).sum();
        state(old + n * delays.size() > 8192);
        int deleted = 0;
        for (int k = 0; k < n; k++) {
            deleted += assign(driver(p, s).rows.get(first + k), k, mode, given);
        }
        delays.clear();
        laid.clear();
        return deleted;
    }

    private int assign(List<Change> row, int k, int mode, long given) {
        int old = row.size();
        long from = now + delays.get(0);
        row.removeIf(c -> c.time >= from);
        int others = row.size();
        for (int i = 0; i < delays.size(); i++) {
            row.add(new Change(now + delays.get(i), laid.get(i)[k]));
        }
        if (mode != 1) {
            long limit = mode == 0 ? delays.get(0) : given;
            for (int i = 0; i < row.size(); i++) {
                row.get(i).marked = i >= others || row.get(i).time < from - limit;
            }
            for (int i = others - 1; i >= 0; i--) {
                Change behind = row.get(i + 1);
                if (behind.marked && behind.value == row.get(i).value) {
                    row.get(i).marked = true;
                }
            }
            row.removeIf(c -> !c.marked);
        }
        return old + delays.size() - row.size();
    }

    void on(int s) {
        index(noSignal(s));
        on.add(s);
    }

    void suspend(int p, boolean question, long delay) {
        index(noProcess(p));
        argument(delay < -1 || delay > LAST || now + delay > LAST);
        Proc proc = procs.get(p);
        state(proc.state != 0);
        proc.state = 1;
        proc.signals = new TreeSet<>(on);
        on.clear();
        proc.question = question;
        proc.hasTime = delay != -1;
        proc.time = now + delay;
    }

    void end(int p) {
        index(noProcess(p));
        state(procs.get(p).state != 0 && procs.get(p).state != 2);
        procs.get(p).state = 3;
    }

    void answer(int p, boolean yes) {
        index(noProcess(p));
        state(procs.get(p).state != 2);
        procs.get(p).state = yes ? 0 : 1;
    }

    int cycle() {
        state(!started || procs.stream().anyMatch(p -> p.state == 0 || p.state == 2));
        long next = next();
        if (next == -1) {
            return 0;
        }
        if (next == now && step + 1 > limit) {
            return 3;
        }
        int answer = next == now ? 2 : 1;
        step = next == now ? step + 1 : 0;
        now = next;
        update();
        for (Proc p : procs) {
            if (p.state == 1 && p.hasTime && p.time == now) {
                p.state = 0;
            } else if (p.state == 1 && p.signals.stream().anyMatch(s -> lines.get(s).event)) {
                p.state = p.question ? 2 : 0;
            }
        }
        return answer;
    }

    private void update() {
        for (Line line : lines) {
            line.active = false;
            line.event = false;
        }
        for (Driver d : drivers) {
            for (int k = 0; k < d.value.length; k++) {
                for (Change c : d.rows.get(k)) {
                    if (c.time <= now) {
                        d.value[k] = c.value;
                        lines.get(d.signal).active = true;
                    }
                }
                d.rows.get(k).removeIf(c -> c.time <= now);
            }
        }
        for (int s = 0; s < lines.size(); s++) {
            Line line = lines.get(s);
            int[] made = together(s);
            if (line.active && !java.util.Arrays.equals(made, line.value)) {
                line.event = true;
                line.last = line.value;
                line.value = made;
            }
        }
    }

    int state(int p) {
        index(noProcess(p));
        return procs.get(p).state;
    }

    int which(int state, int i) {
        argument(state < 0 || state > 3);
        List<Integer> found = new ArrayList<>();
        for (int p = 0; p < procs.size(); p++) {
            if (procs.get(p).state == state) {
                found.add(p);
            }
        }
        return i < 0 || i >= found.size() ? -1 : found.get(i);
    }

    int value(int s, int k, boolean last) {
        index(noElement(s, k));
        return last ? lines.get(s).last[k] : lines.get(s).value[k];
    }

    int marks(int s) {
        index(noSignal(s));
        return lines.get(s).event ? 3 : lines.get(s).active ? 1 : 0;
    }

    int event(int i) {
        List<Integer> found = new ArrayList<>();
        for (int s = 0; s < lines.size(); s++) {
            if (lines.get(s).event) {
                found.add(s);
            }
        }
        return i < 0 || i >= found.size() ? -1 : found.get(i);
    }

    long now() {
        return now;
    }

    int step() {
        return step;
    }

    long next() {
        TreeSet<Long> times = new TreeSet<>();
        for (Driver d : drivers) {
            d.rows.forEach(row -> row.forEach(c -> times.add(c.time)));
        }
        for (Proc p : procs) {
            if ((p.state == 1 || p.state == 2) && p.hasTime) {
                times.add(p.time);
            }
        }
        return times.isEmpty() ? -1 : times.first();
    }

    int pending(int p, int s, int k) {
        index(noProcess(p) || noElement(s, k));
        Driver d = driver(p, s);
        return d == null ? -1 : d.rows.get(k).size();
    }

    int projected(int p, int s, int k, long time) {
        index(noProcess(p) || noElement(s, k));
        argument(time < now);
        Driver d = driver(p, s);
        if (d == null) {
            return 0;
        }
        int value = d.value[k];
        for (Change c : d.rows.get(k)) {
            if (c.time <= time) {
                value = c.value;
            }
        }
        return value;
    }
}
