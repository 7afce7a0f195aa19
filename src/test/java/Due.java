/** Counts what is as due and tells what is not; used by each test program. */
final class Due {
    interface Call {
        long of();
    }

    private int right;
    private int wrong;

    static long one(boolean isSo) {
        return isSo ? 1 : 0;
    }

    void is(String what, long want, long got) {
        if (want == got) {
            right++;
        } else {
            fail(what + ": answered " + got + ", due is " + want);
        }
    }

    void yes(String what, boolean got) {
        is(what, 1, one(got));
    }

    void no(String what, boolean got) {
        is(what, 0, one(got));
    }

    void index(String what, KeyringCourt court, Call call) {
        refused(what, IndexOutOfBoundsException.class, court, call);
    }

    void argument(String what, KeyringCourt court, Call call) {
        refused(what, IllegalArgumentException.class, court, call);
    }

    void state(String what, KeyringCourt court, Call call) {
        refused(what, IllegalStateException.class, court, call);
    }

    /** An object is used for 512 calls, so this looks briefly; {@link Sides} finds out more with a twin of the court. */
    private void refused(String what, Class<?> kind, KeyringCourt court, Call call) {
        String before = Seen.briefly(court);
        try {
            fail(what + ": answered " + call.of() + ", due is " + kind.getSimpleName());
            return;
        } catch (RuntimeException e) {
            if (e.getClass() != kind || !isThrownByCourt(e)) {
                fail(what + ": threw " + e + " at " + e.getStackTrace()[0] + ", due is " + kind.getSimpleName());
                return;
            }
        }
        if (!before.equals(Seen.briefly(court))) {
            fail(what + ": threw, but changed something");
            return;
        }
        right++;
    }

    static boolean isThrownByCourt(RuntimeException e) {
        return e.getStackTrace().length > 0 && e.getStackTrace()[0].getClassName().startsWith("KeyringCourt");
    }

    void fail(String what) {
        wrong++;
        System.out.println("not as due: " + what);
    }

    void end(String test) {
        System.out.println(test + ": " + right + " as due, " + wrong + " not as due");
        if (wrong != 0 || right == 0) {
            System.exit(1);
        }
    }
}
