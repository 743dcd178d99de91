import java.util.function.LongSupplier;

/** Counts answers that are not the ones that are due; every test of the project uses one. */
final class Check {
    static final Class<?> INDEX = IndexOutOfBoundsException.class;
    static final Class<?> ARGUMENT = IllegalArgumentException.class;
    static final Class<?> STATE = IllegalStateException.class;

    private final String test;
    private int asked;
    private int wrong;

    Check(String test) {
        this.test = test;
    }

    void due(String call, long got, long want) {
        asked++;
        if (got != want) {
            wrong++;
            System.out.println(test + ": " + call + " answered " + got + ", due is " + want);
        }
    }

    void due(String call, String got, String want) {
        asked++;
        if (!got.equals(want)) {
            wrong++;
            System.out.println(test + ": " + call + " answered " + got + ", due is " + want);
        }
    }

    /** Tells the first line that differs, because the whole texts are long. */
    void same(String what, String got, String want) {
        asked++;
        if (got.equals(want)) {
            return;
        }
        wrong++;
        String[] gotLines = got.split("\n");
        String[] wantLines = want.split("\n");
        int i = 0;
        while (i < gotLines.length && i < wantLines.length && gotLines[i].equals(wantLines[i])) {
            i++;
        }
        System.out.println(test + ": " + what + ": "
            + (i < gotLines.length ? gotLines[i] : "nothing more") + ", due is "
            + (i < wantLines.length ? wantLines[i] : "nothing more"));
    }

    void isThrown(String call, Class<?> want, Runnable run) {
        due(call, outcome(() -> {
            run.run();
            return 0;
        }), "throws." + want.getSimpleName());
    }

    /** The exact class counts: a machine's exception below the document's one is wrong. */
    static String outcome(LongSupplier call) {
        try {
            return Long.toString(call.getAsLong());
        } catch (RuntimeException e) {
            return "throws." + e.getClass().getSimpleName();
        }
    }

    void close() {
        System.out.println(test + ": " + asked + " answers, " + wrong + " wrong");
        if (wrong != 0 || asked == 0) {
            System.exit(1);
        }
    }
}
