import java.util.concurrent.Callable;

/** Counts and prints what is not as due; a test's main method ends with done(). */
final class Check {
    private int checks = 0;
    private int wrong = 0;

    void same(String what, Object due, Object got) {
        checks++;
        if (!due.equals(got)) {
            wrong++;
            System.out.println(what + ": answered " + got + ", due is " + due);
        }
    }

    /** The call must throw this very class, as a subclass would be another exception of the document. */
    void fails(String what, Class<? extends Exception> due, Callable<?> call) {
        Object got;
        try {
            got = call.call();
        } catch (Exception e) {
            got = e.getClass();
        }
        same(what, due, got);
    }

    /** The order has these lines, and does not go further. */
    void order(FormOffice office, int... due) {
        for (int i = 0; i < 12; i++) {
            int place = i;
            if (i < due.length) {
                same("place " + place, due[place], office.order(place));
            } else {
                fails("place " + place, IllegalStateException.class, () -> office.order(place));
            }
        }
    }

    void done() {
        System.out.println(checks + " answers looked at, " + wrong + " not as due");
        if (wrong != 0 || checks == 0) {
            System.exit(1);
        }
    }
}
