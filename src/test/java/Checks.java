/** Counts what is wrong in a test and ends the test's run accordingly. */
final class Checks {
    /** A call that may throw; a boolean answer is told as 1 or 0. */
    interface Call {
        long answer();
    }

    private int made;
    private int wrong;
    private String about = "";

    void about(String promise) {
        about = promise;
    }

    void is(long want, long got) {
        made++;
        if (want != got) {
            tell("answered " + got + ", due is " + want);
        }
    }

    void is(boolean want, boolean got) {
        is(want ? 1 : 0, got ? 1 : 0);
    }

    void isTrue(boolean holds, String what) {
        made++;
        if (!holds) {
            tell("does not hold: " + what);
        }
    }

    void isText(String want, String got) {
        made++;
        if (!want.equals(got)) {
            tell("answered " + got + ", due is " + want);
        }
    }

    void noSuch(Call call) {
        throwing(IndexOutOfBoundsException.class, call);
    }

    void outOfRange(Call call) {
        throwing(IllegalArgumentException.class, call);
    }

    void notNow(Call call) {
        throwing(IllegalStateException.class, call);
    }

    /** One of the document's three exceptions, whichever it is. */
    void refused(Call call) {
        made++;
        try {
            tell("answered " + call.answer() + ", due is an exception");
        } catch (RuntimeException e) {
            if (e.getClass() != IndexOutOfBoundsException.class && e.getClass() != IllegalArgumentException.class
                    && e.getClass() != IllegalStateException.class) {
                tell("threw " + e.getClass().getSimpleName());
            }
        }
    }

    private void throwing(Class<? extends RuntimeException> want, Call call) {
        made++;
        try {
            long got = call.answer();
            tell("answered " + got + ", due is " + want.getSimpleName());
        } catch (RuntimeException e) {
            if (e.getClass() != want) {
                tell("threw " + e.getClass().getSimpleName() + ", due is " + want.getSimpleName());
            }
        }
    }

    private void tell(String what) {
        wrong++;
        StackTraceElement[] trace = new Throwable().getStackTrace();
        String line = "?";
        for (StackTraceElement e : trace) {
            if (!e.getClassName().equals("Checks")) {
                line = e.getFileName() + ":" + e.getLineNumber();
                break;
            }
        }
        System.out.println(line + " (" + about + ") " + what);
    }

    void end() {
        System.out.println(made + " checks, " + wrong + " wrong");
        if (wrong != 0 || made == 0) {
            System.exit(1);
        }
    }
}
