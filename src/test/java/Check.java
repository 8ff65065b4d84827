/** Counts what is not as due; a test ends with exit code 1 if anything was not. */
final class Check {
    private final String test;
    private String sentence = "";
    private int looks = 0;
    private int wrong = 0;

    Check(String test) {
        this.test = test;
    }

    /** A sentence of the document and its own test; an exception there does not keep the others from being run. */
    void sentence(String text, Runnable ownTest) {
        sentence = " [" + text + "]";
        int before = looks;
        try {
            ownTest.run();
        } catch (RuntimeException e) {
            tell("threw " + e + " at " + e.getStackTrace()[0]);
        }
        if (looks == before) {
            tell("looked at nothing");
        }
        sentence = "";
    }

    void same(String what, long got, long due) {
        looks++;
        if (got != due) {
            tell(what + " answered " + got + ", due is " + due);
        }
    }

    void same(String what, boolean got, boolean due) {
        same(what, got ? 1 : 0, due ? 1 : 0);
    }

    void same(String what, String got, String due) {
        looks++;
        if (!due.equals(got)) {
            tell(what + " is " + got + ", due is " + due);
        }
    }

    void same(String what, byte[] got, byte[] due) {
        looks++;
        if (!java.util.Arrays.equals(got, due)) {
            tell(what + " answered " + java.util.Arrays.toString(got)
                    + ", due is " + java.util.Arrays.toString(due));
        }
    }

    /** The very class counts, not one above or below it. */
    void fails(String what, Class<? extends RuntimeException> due, Runnable call) {
        looks++;
        try {
            call.run();
            tell(what + " threw nothing, due is " + due.getSimpleName());
        } catch (RuntimeException e) {
            if (e.getClass() != due) {
                tell(what + " threw " + e + ", due is " + due.getSimpleName());
            }
        }
    }

    void finish() {
        System.out.println(test + ": " + looks + " looks, " + wrong + " wrong");
        if (wrong != 0) {
            System.exit(1);
        }
    }

    private void tell(String text) {
        wrong++;
        if (wrong <= 20) {
            System.out.println(test + sentence + ": " + text);
        }
    }
}
