/**
 * Due answers in runs of calls on new objects. Each call is also looked at for what it must not change: one that
 * throws or asks changes nothing, one that tells -9 nothing but that it is counted; a twin without it shows that.
 */
final class Edges {
    private final Check check;

    Edges(Check check) {
        this.check = check;
    }

    /** Behind the run the call has this answer; behind both, each call of then has the answer that stands next. */
    void due(String run, String call, Object want, Object... then) {
        String due = String.valueOf(want);
        String whole = run + "; " + call;
        boolean isRefused = Calls.isAct(call) && due.equals("-9");
        boolean isDone = Calls.isAct(call) && !isRefused && !due.startsWith("throws.");
        Allstreets x = Calls.after(run);
        int acts = x.house(0);
        int refusals = x.house(1);
        int knocks = x.house(2);
        long digest = x.digest();
        check.due(whole, Calls.answer(x, call), due);
        check.due(whole + "; house 0", x.house(0), acts + (isDone ? 1 : 0));
        check.due(whole + "; house 1", x.house(1), refusals + (isRefused ? 1 : 0));
        check.due(whole + "; house 2", x.house(2), knocks + (call.equals("knock") ? 1 : 0));
        check.due(whole + "; digest", x.digest(), Face.digestOf(x));
        check.due(whole + "; isSound", x.isSound(), true);
        if (!isDone && !isRefused && !call.equals("knock")) {
            check.due(whole + "; digest", x.digest(), digest);
        }
        for (int i = 0; i + 1 < then.length; i += 2) {
            check.due(whole + "; " + then[i], Calls.answer(x, (String) then[i]), String.valueOf(then[i + 1]));
        }
        if (!isDone) {
            changesNothing(run, call);
        }
    }

    void throwsIndex(String run, String call) {
        due(run, call, "throws.IndexOutOfBoundsException");
    }

    void throwsArgument(String run, String call) {
        due(run, call, "throws.IllegalArgumentException");
    }

    /** The call is let: it throws nothing, whatever it answers. */
    void isLet(String run, String call) {
        String got = Calls.answer(Calls.after(run), call);
        check.due(run + "; " + call + " (" + got + ") throws", got.startsWith("throws."), false);
    }

    void end() {
        check.end();
    }

    private void changesNothing(String run, String call) {
        Allstreets x = Calls.after(run);
        Calls.answer(x, call);
        check.due(run + "; " + call + "; then all", allOf(x), allOf(Calls.after(run)));
    }

    // The TOLD step shows in no answer but by the cursor's own acts: so these are tried, which uses the object up.
    private static String allOf(Allstreets x) {
        StringBuilder all = new StringBuilder(Face.stateOf(x));
        int streets = x.streets();
        for (int street = 0; street < streets; street++) {
            all.append(' ').append(x.cursorSet(street));
        }
        all.append(" removed ").append(x.cursorRemove());
        all.append(" ahead ").append(x.cursorGo(false));
        all.append(" removed ").append(x.cursorRemove());
        return all.append(Face.stateOf(x)).toString();
    }
}
