/** Counts what tests found; main methods end with finish(). */
final class Check {
    interface Call {
        void make();
    }

    private final String test;
    private int right = 0;
    private int wrong = 0;

    Check(String test) {
        this.test = test;
    }

    void same(String what, long got, long want) {
        note(got == want, what + " answered " + got + ", due is " + want);
    }

    void holds(String what, boolean got) {
        note(got, what + " does not hold");
    }

    /** The very class counts: a class below it may be one that the machine throws. */
    void illegalArgument(String what, Call call) {
        same(what + " throws (1 illegal argument, 2 illegal state, 3 another, 0 nothing)", thrownBy(call), 1);
    }

    void illegalState(String what, Call call) {
        same(what + " throws (1 illegal argument, 2 illegal state, 3 another, 0 nothing)", thrownBy(call), 2);
    }

    static int thrownBy(Call call) {
        try {
            call.make();
            return 0;
        } catch (Throwable thrown) {
            return kindOf(thrown);
        }
    }

    static int kindOf(Throwable thrown) {
        if (thrown.getClass() == IllegalArgumentException.class) {
            return 1;
        }
        return thrown.getClass() == IllegalStateException.class ? 2 : 3;
    }

    private void note(boolean good, String text) {
        if (good) {
            right++;
        } else {
            wrong++;
            System.out.println(test + ": " + text);
        }
    }

    void finish() {
        System.out.println(test + ": " + right + " right, " + wrong + " wrong");
        if (wrong != 0) {
            System.exit(1);
        }
    }
}
