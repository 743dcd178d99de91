/**
 * The limits of steps that an object meets only behind its 512th call. The document leaves free
 * what it answers there, but nowhere else can be seen that 100000 is taken and 100001 is not: this
 * class keeps to its limit however many calls are made.
 */
public final class StepLimitTest {
    private static final Check CHECK = new Check("StepLimitTest");

    public static void main(String[] args) {
        limit(999, 999);
        limit(1000, 1000);
        limit(1001, 1001);
        limit(99999, 99999);
        limit(100000, 100000);
        limit(100001, 1000);
        limit(Integer.MAX_VALUE, 1000);
        limit(0, 1000);
        limit(-1, 1000);
        limit(Integer.MIN_VALUE, 1000);
        CHECK.close();
    }

    private static void limit(int given, int due) {
        CycleKernel x = new CycleKernel(given);
        x.process();
        x.start();
        x.suspend(0, false, 0);
        int answer = x.cycle();
        for (int i = 0; i < 200000 && answer == CycleKernel.STEP; i++) {
            x.suspend(0, false, 0);
            answer = x.cycle();
        }
        CHECK.due("limit " + given + ": the last cycle()", answer, CycleKernel.LIMIT);
        CHECK.due("limit " + given + ": step()", x.step(), due);
    }
}
