/** Counts answers that are not the ones due, prints each, and ends the program with 1 if there was one. */
final class Check {
    interface Call {
        long run();
    }

    private final String test;
    private int wrong;

    Check(String test) {
        this.test = test;
    }

    void due(String what, long got, long want) {
        if (got != want) {
            report(what + " answered " + got + ", due is " + want);
        }
    }

    void due(String what, boolean got, boolean want) {
        due(what, got ? 1 : 0, want ? 1 : 0);
    }

    /** The call must throw exactly this exception. RefusalsTest looks at whether it changes something. */
    void throwing(String what, Class<? extends RuntimeException> want, Call call) {
        String thrown = nameOfThrown(call);
        if (!thrown.equals(want.getSimpleName())) {
            report(what + " threw " + thrown + ", due is " + want.getSimpleName());
        }
    }

    void index(String what, Call call) {
        throwing(what, IndexOutOfBoundsException.class, call);
    }

    void argument(String what, Call call) {
        throwing(what, IllegalArgumentException.class, call);
    }

    void state(String what, Call call) {
        throwing(what, IllegalStateException.class, call);
    }

    void report(String text) {
        wrong++;
        System.out.println(test + ": " + text);
    }

    void end() {
        System.out.println(test + ": " + (wrong == 0 ? "all as due" : wrong + " wrong"));
        if (wrong != 0) {
            System.exit(1);
        }
    }

    static String nameOfThrown(Call call) {
        try {
            call.run();
            return "nothing";
        } catch (RuntimeException e) {
            return e.getClass().getSimpleName();
        }
    }
}
