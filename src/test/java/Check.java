import java.util.function.Supplier;

/** Counts the answers that are not as due, and ends the test with exit code 1 if there was one. */
final class Check {
    private final String test;
    private int right;
    private int wrong;

    Check(String test) {
        this.test = test;
    }

    void is(String what, long got, long due) {
        note(got == due, what, Long.toString(got), Long.toString(due));
    }

    void is(String what, double got, double due) {
        note(got == due, what, Double.toString(got), Double.toString(due));
    }

    void is(String what, boolean got, boolean due) {
        note(got == due, what, Boolean.toString(got), Boolean.toString(due));
    }

    void is(String what, String got, String due) {
        note(got.equals(due), what, got, due);
    }

    /** The call must throw an exception of just this class. */
    void refuses(String what, Class<? extends RuntimeException> due, Runnable call) {
        String got = "nothing";
        try {
            call.run();
        } catch (RuntimeException thrown) {
            got = thrown.getClass().getName();
        }
        note(got.equals(due.getName()), what + " throws", got, due.getName());
    }

    /** Both calls must answer the same, or throw an exception of the same class. */
    void same(String what, Supplier<?> got, Supplier<?> due) {
        is(what, told(got), told(due));
    }

    /** What the call answers, or what it throws. */
    static String told(Supplier<?> call) {
        try {
            return String.valueOf(call.get());
        } catch (RuntimeException thrown) {
            return "throws " + thrown.getClass().getSimpleName();
        }
    }

    void finish() {
        System.out.println(test + ": " + right + " answers as due, " + wrong + " not");
        if (wrong > 0) {
            System.exit(1);
        }
    }

    private void note(boolean isRight, String what, String got, String due) {
        if (isRight) {
            right++;
        } else {
            wrong++;
            System.out.println(test + ": " + what + " answered " + got + ", due is " + due);
        }
    }
}
