import java.util.Set;

/** Calls written as text, such as "step 0 2 true", so that a test can make the same object again and again. */
final class Calls {
    private static final Set<String> ACTS = Set.of("lay", "layRing", "words", "close", "clear", "oneWay", "turnTown",
        "begin", "step", "back", "on", "complete", "splice", "join", "cut", "turnRound", "rotate", "first", "next",
        "copy", "cursor", "cursorGo", "cursorSet", "cursorAdd", "cursorRemove");

    private Calls() {
    }

    static boolean isAct(String call) {
        return ACTS.contains(nameOf(call));
    }

    static String nameOf(String call) {
        return call.trim().split(" ")[0];
    }

    /** A new object behind a run of calls, "lay 0 1; begin 0 1": none of them may throw or tell -9. */
    static Allstreets after(String run) {
        Allstreets x = new Allstreets();
        for (String call : run.split(";")) {
            if (!call.isBlank()) {
                String answer = answer(x, call);
                if (answer.equals("-9") || answer.startsWith("throws.")) {
                    throw new IllegalStateException(call + " answered " + answer + " in the run " + run);
                }
            }
        }
        return x;
    }

    /** The answer as text; that of a call that throws is "throws." and the exception's name. */
    static String answer(Allstreets x, String call) {
        String[] words = call.trim().split(" ");
        int[] arguments = new int[words.length - 1];
        for (int i = 1; i < words.length; i++) {
            String word = words[i];
            boolean isTruth = word.equals("true") || word.equals("false");
            arguments[i - 1] = isTruth ? (word.equals("true") ? 1 : 0) : Integer.parseInt(word);
        }
        try {
            return String.valueOf(call(x, words[0], arguments));
        } catch (RuntimeException e) {
            // The very class: the machine's own exceptions are classes below those of the document.
            return "throws." + e.getClass().getSimpleName();
        }
    }

    /** Calls the method of this name; booleans are given as 1 or 0. */
    static Object call(Allstreets x, String name, int[] a) {
        switch (name) {
            case "lay": return x.lay(a[0], a[1]);
            case "layRing": return x.layRing(a[0], a[1]);
            case "words": return x.words(a[0], a[1]);
            case "close": return x.close(a[0]);
            case "clear": return x.clear();
            case "oneWay": return x.oneWay(a[0] == 1);
            case "turnTown": return x.turnTown();
            case "streets": return x.streets();
            case "end": return x.end(a[0], a[1] == 1);
            case "ways": return x.ways(a[0], a[1]);
            case "odd": return x.odd();
            case "hangs": return x.hangs();
            case "kind": return x.kind();
            case "isStart": return x.isStart(a[0]);
            case "rule": return x.rule(a[0]);
            case "begin": return x.begin(a[0], a[1]);
            case "step": return x.step(a[0], a[1], a[2] == 1);
            case "back": return x.back(a[0], a[1] == 1);
            case "on": return x.on(a[0], a[1] == 1);
            case "complete": return x.complete(a[0], a[1] == 1);
            case "splice": return x.splice(a[0], a[1], a[2]);
            case "join": return x.join(a[0], a[1]);
            case "cut": return x.cut(a[0], a[1], a[2], a[3]);
            case "turnRound": return x.turnRound(a[0]);
            case "rotate": return x.rotate(a[0], a[1]);
            case "first": return x.first(a[0], a[1], a[2] == 1);
            case "next": return x.next(a[0], a[1] == 1);
            case "copy": return x.copy(a[0], a[1]);
            default: return callOther(x, name, a);
        }
    }

    private static Object callOther(Allstreets x, String name, int[] a) {
        switch (name) {
            case "length": return x.length(a[0]);
            case "cornerAt": return x.cornerAt(a[0], a[1]);
            case "stepAt": return x.stepAt(a[0], a[1]);
            case "find": return x.find(a[0], a[1]);
            case "is": return x.is(a[0], a[1] == 1);
            case "same": return x.same(a[0], a[1]);
            case "turnOf": return x.turnOf(a[0], a[1]);
            case "text": return x.text(a[0], a[1]);
            case "wordAt": return x.wordAt(a[0], a[1], a[2]);
            case "cursor": return x.cursor(a[0], a[1]);
            case "cursorGo": return x.cursorGo(a[0] == 1);
            case "cursorSet": return x.cursorSet(a[0]);
            case "cursorAdd": return x.cursorAdd(a[0]);
            case "cursorRemove": return x.cursorRemove();
            case "cursorCan": return x.cursorCan(a[0] == 1);
            case "cursorPlace": return x.cursorPlace(a[0] == 1);
            case "house": return x.house(a[0]);
            case "knock": return x.knock();
            case "isSound": return x.isSound();
            case "digest": return x.digest();
            default: throw new IllegalStateException("the test calls no method of the class: " + name);
        }
    }
}
