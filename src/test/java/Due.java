import java.util.function.LongSupplier;

/** Counts the answers of a test that are not the ones that are due. */
final class Due {
    /** Stands for the IllegalStateException of run() among the answers. */
    static final long ILLEGAL_STATE = Long.MIN_VALUE;
    /** Stands for every other exception: it is never due. */
    static final long OTHER_THROW = Long.MIN_VALUE + 1;

    private static final long PATIENCE = 600_000;

    private final String test;
    private int asked;
    private int wrong;

    Due(String test) {
        this.test = test;
        Thread watch = new Thread(this::giveUp);
        watch.setDaemon(true);
        watch.start();
    }

    /** A call that never ends is a wrong answer too. */
    private void giveUp() {
        try {
            Thread.sleep(PATIENCE);
        } catch (InterruptedException e) {
            return;
        }
        System.out.println(test + ": a call does not end");
        Runtime.getRuntime().halt(1);
    }

    void is(String call, long got, long want) {
        asked++;
        if (got != want) {
            wrong++;
            if (wrong <= 40) {
                System.out.println(test + ": " + call + " answered " + text(got) + ", due is " + text(want));
            }
        }
    }

    void is(String call, boolean got, boolean want) {
        is(call, got ? 1 : 0, want ? 1 : 0);
    }

    boolean clean() {
        return wrong == 0;
    }

    void end() {
        if (asked == 0) {
            System.out.println(test + ": nothing was asked");
            System.exit(1);
        }
        System.out.println(test + ": " + asked + " answers, " + wrong + " wrong");
        if (wrong != 0) {
            System.exit(1);
        }
    }

    static long answer(LongSupplier call) {
        try {
            return call.getAsLong();
        } catch (IllegalStateException e) {
            return e.getClass() == IllegalStateException.class ? ILLEGAL_STATE : OTHER_THROW;
        } catch (RuntimeException e) {
            return OTHER_THROW;
        }
    }

    static long run(HaulFlows x, int steps) {
        return answer(() -> x.run(steps));
    }

    private static String text(long answer) {
        return answer == ILLEGAL_STATE ? "throws.IllegalStateException"
                : answer == OTHER_THROW ? "throws something else" : Long.toString(answer);
    }
}
