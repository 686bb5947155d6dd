import java.util.function.IntSupplier;

/** Compares answers with those that are due, and ends a test with exit code 1 if one was wrong. */
final class Checks {
    static final String STATE = "throws.IllegalStateException";
    static final String ARGUMENT = "throws.IllegalArgumentException";
    private static final int SECONDS = 300;

    private final String test;
    private String sentence = "";
    private int checked = 0;
    private int wrong = 0;

    Checks(String test) {
        this.test = test;
        endIfItHangs();
    }

    /** A call that never ends must fail the test, not hold it. */
    private void endIfItHangs() {
        Thread watch = new Thread(() -> {
            try {
                Thread.sleep(SECONDS * 1000L);
            } catch (InterruptedException e) {
                return;
            }
            System.out.println(test + ": not done in " + SECONDS + " seconds");
            Runtime.getRuntime().halt(1);
        });
        watch.setDaemon(true);
        watch.start();
    }

    static String answer(IntSupplier call) {
        try {
            return Integer.toString(call.getAsInt());
        } catch (RuntimeException e) {
            return "throws." + e.getClass().getSimpleName();
        }
    }

    static String answer(Runnable call) {
        try {
            call.run();
            return "done";
        } catch (RuntimeException e) {
            return "throws." + e.getClass().getSimpleName();
        }
    }

    /** The words of the document that the checks from here on hold. */
    void sentence(String where, String words) {
        sentence = where + " \"" + words + "\": ";
    }

    void due(String what, String got, String want) {
        checked++;
        if (!got.equals(want)) {
            wrong++;
            if (wrong <= 50) {
                System.out.println(test + ": " + sentence + what + " answered " + got + ", due is " + want);
            }
        }
    }

    void holds(String what, boolean got) {
        due(what, Boolean.toString(got), "true");
    }

    void due(String what, long got, long want) {
        due(what, Long.toString(got), Long.toString(want));
    }

    void state(String what, Runnable call) {
        due(what, answer(call), STATE);
    }

    void argument(String what, Runnable call) {
        due(what, answer(call), ARGUMENT);
    }

    boolean failed() {
        return wrong > 0;
    }

    void end() {
        System.out.println(test + ": " + checked + " answers, " + wrong + " not as due");
        System.exit(wrong == 0 && checked > 0 ? 0 : 1);
    }
}
