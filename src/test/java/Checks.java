/** Counts and prints the answers that are not the ones that are due. */
final class Checks {
    /** A call whose answer, or exception, is looked at. */
    interface Call {
        long answer();
    }

    private final String name;
    private int looked;
    private int wrong;

    Checks(String name) {
        this.name = name;
    }

    void due(String call, long got, long want) {
        looked++;
        if (got != want) {
            fail(call + " answered " + got + ", due is " + want);
        }
    }

    /** The exception must be of just this class: IndexOutOfBoundsException has classes of the machine below it. */
    void throwing(String call, Class<? extends RuntimeException> want, Call made) {
        looked++;
        String got;
        try {
            got = "answered " + made.answer();
        } catch (RuntimeException e) {
            if (e.getClass() == want) {
                return;
            }
            got = "threw " + e;
        }
        fail(call + " " + got + ", due is " + want.getSimpleName());
    }

    /** A call that throws must change nothing that the digest tells. */
    void refused(StrengthLayout layout, String call, Class<? extends RuntimeException> want, Call made) {
        long before = layout.digest();
        throwing(call, want, made);
        due("digest() after the refused " + call, layout.digest(), before);
    }

    void fail(String text) {
        wrong++;
        if (wrong <= 50) {
            System.out.println(name + ": " + text);
        }
    }

    boolean failed() {
        return wrong > 0;
    }

    void end() {
        System.out.println(name + ": " + looked + " answers, " + wrong + " of them wrong");
        if (wrong > 0) {
            System.exit(1);
        }
    }
}
