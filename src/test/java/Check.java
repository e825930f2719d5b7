/** Counts what is not as due, and ends a test with exit code 1 if there was something. */
final class Check {
    interface Call {
        long get();
    }

    private int wrong;
    private int asked;
    private final String name;

    Check(String name) {
        this.name = name;
    }

    void due(String what, long want, long got) {
        asked++;
        if (got != want) {
            wrong++;
            System.out.println(name + ": " + what + " answered " + got + ", due is " + want);
        }
    }

    void due(String what, boolean want, boolean got) {
        due(what, want ? 1 : 0, got ? 1 : 0);
    }

    void isTrue(String what, boolean got) {
        due(what, true, got);
    }

    /** The call throws exactly this exception. */
    void thrown(String what, Class<?> want, Call call) {
        asked++;
        Class<?> got = null;
        try {
            call.get();
        } catch (RuntimeException e) {
            got = e.getClass();
        }
        if (got != want) {
            wrong++;
            System.out.println(name + ": " + what + " threw " + got + ", due is " + want);
        }
    }

    void ioobe(String what, Call call) {
        thrown(what, IndexOutOfBoundsException.class, call);
    }

    void iae(String what, Call call) {
        thrown(what, IllegalArgumentException.class, call);
    }

    void ise(String what, Call call) {
        thrown(what, IllegalStateException.class, call);
    }

    void finish() {
        System.out.println(name + ": " + asked + " answers, " + wrong + " not as due");
        if (wrong != 0) {
            System.exit(1);
        }
    }
}
