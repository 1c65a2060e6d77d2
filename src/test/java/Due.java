/** Counts and prints the calls whose answers are not as due. */
final class Due {
    private final String test;
    private int calls;
    private int wrong;

    Due(String test) {
        this.test = test;
    }

    void equal(String what, long got, long want) {
        calls++;
        if (got != want) {
            tell(what + " answered " + got + ", due is " + want);
        }
    }

    void equal(String what, boolean got, boolean want) {
        equal(what, got ? 1 : 0, want ? 1 : 0);
    }

    void fails(String what, Class<? extends RuntimeException> want, Runnable call) {
        calls++;
        try {
            call.run();
        } catch (RuntimeException e) {
            if (e.getClass() != want) {
                tell(what + " threw " + e + ", due is " + want.getSimpleName());
            }
            return;
        }
        tell(what + " threw nothing, due is " + want.getSimpleName());
    }

    int wrong() {
        return wrong;
    }

    void end() {
        System.out.println(test + ": " + calls + " answers, " + wrong + " not as due");
        if (wrong != 0) {
            System.exit(1);
        }
    }

    private void tell(String text) {
        wrong++;
        if (wrong <= 50) {
            System.out.println(test + ": " + text);
        }
    }
}
