/** What the tests compare with. A test that fails throws an AssertionError. */
final class Checks {
    private Checks() {
    }

    interface Call {
        void make();
    }

    static void same(String what, long got, long due) {
        if (got != due) {
            throw new AssertionError(what + " answered " + got + ", due is " + due);
        }
    }

    static void same(String what, double got, double due) {
        if (Double.compare(got, due) != 0) {
            throw new AssertionError(what + " answered " + got + ", due is " + due);
        }
    }

    static void same(String what, String got, String due) {
        if (!got.equals(due)) {
            throw new AssertionError(what + " answered " + got + ", due is " + due);
        }
    }

    static void is(String what, boolean got) {
        if (!got) {
            throw new AssertionError(what + " answered false, due is true");
        }
    }

    static void isNot(String what, boolean got) {
        if (got) {
            throw new AssertionError(what + " answered true, due is false");
        }
    }

    private static void fails(SettlementRing ring, Class<?> due, String what, Call call) {
        String before = Sight.of(ring);
        Class<?> got = null;
        try {
            call.make();
        } catch (RuntimeException e) {
            got = e.getClass();
        }
        if (got != due) {
            throw new AssertionError(what + (got == null ? " throws nothing" : " throws " + got.getName())
                    + ", due is " + due.getName());
        }
        same(what + ": what there is behind a call that throws", Sight.of(ring), before);
    }

    /** The call is due to throw an IndexOutOfBoundsException and to change nothing. */
    static void noSuch(SettlementRing ring, String what, Call call) {
        fails(ring, IndexOutOfBoundsException.class, what, call);
    }

    /** The call is due to throw an IllegalArgumentException and to change nothing. */
    static void badArgument(SettlementRing ring, String what, Call call) {
        fails(ring, IllegalArgumentException.class, what, call);
    }

    /** The call is due to throw an IllegalStateException and to change nothing. */
    static void badState(SettlementRing ring, String what, Call call) {
        fails(ring, IllegalStateException.class, what, call);
    }
}
