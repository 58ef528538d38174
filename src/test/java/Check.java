import java.util.function.IntSupplier;

/** Counts the answers that are not as due, and prints each. */
final class Check {
    private int wrong;

    void due(String call, long got, long want) {
        if (got != want) {
            fail(call + " answered " + got + ", due is " + want);
        }
    }

    void due(String call, boolean got, boolean want) {
        if (got != want) {
            fail(call + " answered " + got + ", due is " + want);
        }
    }

    void due(String call, String got, String want) {
        if (!want.equals(got)) {
            fail(call + " answered \"" + got + "\", due is \"" + want + "\"");
        }
    }

    /** An act: its answer, and that it is counted as one. */
    void act(Allstreets x, String call, IntSupplier act, int want) {
        int acts = x.house(0);
        int refusals = x.house(1);
        due(call, act.getAsInt(), want);
        due(call + ", then house(0)", x.house(0), acts + 1);
        due(call + ", then house(1)", x.house(1), refusals);
    }

    /** An act that tells -9: nothing else may change than that it is counted. */
    void refused(Allstreets x, String call, IntSupplier act) {
        int acts = x.house(0);
        int refusals = x.house(1);
        String before = Face.stateOf(x);
        due(call, act.getAsInt(), -9);
        due(call + ", then house(0)", x.house(0), acts);
        due(call + ", then house(1)", x.house(1), refusals + 1);
        due(call + ", then all else", Face.stateOf(x), before);
    }

    void throwsIndex(Allstreets x, String call, IntSupplier wrongCall) {
        throwsJust(x, call, wrongCall, IndexOutOfBoundsException.class);
    }

    void throwsArgument(Allstreets x, String call, IntSupplier wrongCall) {
        throwsJust(x, call, wrongCall, IllegalArgumentException.class);
    }

    // The class must be the very one: the machine's own exceptions are classes below it.
    private void throwsJust(Allstreets x, String call, IntSupplier wrongCall, Class<?> want) {
        long before = x.digest();
        Class<?> got = null;
        try {
            wrongCall.getAsInt();
        } catch (RuntimeException e) {
            got = e.getClass();
        }
        if (got != want) {
            fail(call + " threw " + got + ", due is " + want);
        }
        due(call + ", then digest()", x.digest(), before);
    }

    void fail(String what) {
        wrong++;
        if (wrong <= 20) {
            System.out.println(what);
        }
    }

    void end() {
        System.out.println(wrong == 0 ? "all answers are as due" : wrong + " answers are not as due");
        if (wrong > 0) {
            System.exit(1);
        }
    }
}
