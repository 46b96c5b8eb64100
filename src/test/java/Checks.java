/** Counts the answers that are not as due, and ends a test. */
final class Checks {
    interface Call {
        void on(LateThermometers x);
    }

    private int asked;
    private int wrong;

    void same(String what, long got, long due) {
        asked++;
        if (got != due) {
            complain(what + " answered " + got + ", due is " + due);
        }
    }

    void sameDouble(String what, double got, double due) {
        asked++;
        if (got != due) {
            complain(what + " answered " + got + ", due is " + due);
        }
    }

    void sameText(String what, String got, String due) {
        asked++;
        if (!got.equals(due)) {
            complain(what + " answered\n  " + got + "\n  due is\n  " + due);
        }
    }

    void isTrue(String what, boolean holds) {
        asked++;
        if (!holds) {
            complain(what + " does not hold");
        }
    }

    /** The call throws just this exception, and changes nothing. */
    void refuses(String what, Class<? extends RuntimeException> due, LateThermometers x, Call call) {
        asked++;
        String before = Views.of(x);
        Class<?> got = null;
        try {
            call.on(x);
        } catch (RuntimeException e) {
            got = e.getClass();
        }
        if (got != due) {
            complain(what + " threw " + got + ", due is " + due);
        }
        sameText(what + " changes nothing: what is seen after it", Views.of(x), before);
    }

    void refusesRow(String what, LateThermometers x, Call call) {
        refuses(what, IndexOutOfBoundsException.class, x, call);
    }

    void refusesArgument(String what, LateThermometers x, Call call) {
        refuses(what, IllegalArgumentException.class, x, call);
    }

    void refusesState(String what, LateThermometers x, Call call) {
        refuses(what, IllegalStateException.class, x, call);
    }

    /** The call, and every query after it, changes nothing that is seen. */
    void changesNothing(String what, LateThermometers x, Call call) {
        String before = Views.of(x);
        call.on(x);
        sameText(what + " changes nothing: what is seen after it", Views.of(x), before);
    }

    private void complain(String text) {
        wrong++;
        if (wrong <= 20) {
            System.out.println(text);
        }
    }

    void finish(String name) {
        System.out.println(name + ": " + asked + " answers, " + wrong + " not as due");
        if (wrong != 0) {
            System.exit(1);
        }
    }
}
