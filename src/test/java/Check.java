/** Collects the answers of a test that are not as due, and ends the test. */
final class Check {
    private final String test;
    private String words = "";
    private int asked;
    private int wrong;
    private int told;

    Check(String test) {
        this.test = test;
    }

    /** A test of its own for some words of the document, which are told with what is not as due. */
    void sentence(String ofTheDocument, Runnable body) {
        words = " '" + ofTheDocument + "'";
        told = 0;
        int before = asked;
        try {
            body.run();
        } catch (RuntimeException e) {
            tell("ended with " + e);
        }
        if (asked == before) {
            tell("asked nothing");
        }
        words = "";
    }

    void same(String call, long got, long due) {
        asked++;
        if (got != due) {
            tell(call + " answered " + got + ", due is " + due);
        }
    }

    void same(String call, String got, String due) {
        asked++;
        if (!got.equals(due)) {
            tell(call + " answered " + got + ", due is " + due);
        }
    }

    void outOfBounds(String call, Runnable body) {
        refused(call, IndexOutOfBoundsException.class, body);
    }

    void badArgument(String call, Runnable body) {
        refused(call, IllegalArgumentException.class, body);
    }

    void badState(String call, Runnable body) {
        refused(call, IllegalStateException.class, body);
    }

    private void refused(String call, Class<?> due, Runnable body) {
        asked++;
        Class<?> got = null;
        try {
            body.run();
        } catch (RuntimeException e) {
            got = e.getClass();
        }
        if (got != due) {
            tell(call + " threw " + (got == null ? "nothing" : got.getName()) + ", due is " + due.getName());
        }
    }

    private void tell(String what) {
        wrong++;
        told++;
        if (told <= 20) {
            System.out.println(test + words + ": " + what);
        }
    }

    void end() {
        System.out.println(test + ": " + asked + " answers, " + wrong + " not as due");
        if (wrong != 0 || asked == 0) {
            System.exit(1);
        }
    }
}
