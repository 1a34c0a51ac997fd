/** Compares answers with what is due and counts the wrong ones. */
final class Checks {
    interface Call {
        long answer();
    }

    private final String test;
    private int made = 0;
    private int wrong = 0;

    Checks(String test) {
        this.test = test;
    }

    void due(String what, long want, Call call) {
        String got;
        try {
            got = Long.toString(call.answer());
        } catch (RuntimeException e) {
            got = "throws " + e.getClass().getName();
        }
        dueText(what, Long.toString(want), got);
    }

    void dueText(String what, String want, String got) {
        made++;
        if (!want.equals(got)) {
            wrong++;
            System.out.println(test + ": " + what + " answered " + got + ", due is " + want);
        }
    }

    /** The call throws just this exception and leaves the cube as it was. */
    void refused(String what, Class<? extends RuntimeException> want, FaultyCube x, Call call) {
        long before = x.digest();
        String got;
        try {
            got = Long.toString(call.answer());
        } catch (RuntimeException e) {
            got = "throws " + e.getClass().getName();
        }
        dueText(what, "throws " + want.getName(), got);
        due(what + ": the digest after it", before, x::digest);
    }

    void badArgument(String what, FaultyCube x, Call call) {
        refused(what, IllegalArgumentException.class, x, call);
    }

    void badState(String what, FaultyCube x, Call call) {
        refused(what, IllegalStateException.class, x, call);
    }

    /** To be called last: tells the result and ends the program. */
    void end() {
        System.out.println(test + ": " + made + " checks, " + wrong + " wrong");
        System.exit(wrong == 0 ? 0 : 1);
    }
}
