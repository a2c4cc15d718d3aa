/** Counts and prints the answers that are not the ones that are due. */
final class Check {
    interface Call {
        Object answer();
    }

    private int wrong;
    private int checked;

    void same(String call, Object got, Object due) {
        checked++;
        if (!got.equals(due)) {
            wrong++;
            if (wrong <= 40) {
                System.out.println(call + " answered " + got + ", due is " + due);
            }
        }
    }

    void is(String call, long got, long due) {
        same(call, got, due);
    }

    void is(String call, boolean got, boolean due) {
        same(call, got, due);
    }

    void isReal(String call, double got, double due) {
        same(call, got, due);
    }

    /** The very class of the exception counts, not one above it. */
    void fails(String call, Class<? extends RuntimeException> due, Call body) {
        same(call, outcome(body), due.getName());
    }

    /** The answer, or the name of the class of what was thrown. */
    static Object outcome(Call body) {
        try {
            return body.answer();
        } catch (Throwable thrown) {
            return thrown.getClass().getName();
        }
    }

    int wrongOnes() {
        return wrong;
    }

    void end() {
        if (wrong != 0) {
            System.out.println(wrong + " of " + checked + " answers are not as due");
            System.exit(1);
        }
        System.out.println(checked + " answers are as due");
    }
}
