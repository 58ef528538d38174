import java.util.Arrays;

/** Promises 1 to 49, by long runs of calls, each answered by the class and by the model. */
public final class ModelTest {
    private static final int RUNS = 4000;
    private static final int CALLS = 130;
    // The model tries whole walks one by one: it is asked for them in small towns alone.
    private static final int MOST_FOR_ORDER = 10;
    private static final Check CHECK = new Check();
    private static long seed = 7692;

    // Each name with its arguments: c corner, s street, w walk, b boolean, p place, k what, m and t many and step,
    // g and l signs and length, y by, n a number up to 29.
    private static final String[] METHODS = {"lay cc", "lay cc", "layRing mt", "words gl", "close s", "clear ", "oneWay b",
        "turnTown ", "streets ", "end sb", "ways ck", "odd ", "hangs ", "kind ", "isStart c", "rule k", "begin wc",
        "step wsb", "step wsb", "step wsb", "back wb", "on wb", "complete wb", "splice wwp", "splice wwp", "join ww",
        "join ww", "cut wppw", "cut wppw", "turnRound w", "rotate wy", "first wcb", "next wb", "copy ww", "length w",
        "cornerAt wp", "stepAt wp", "find ws", "is wb", "same ww", "turnOf ww", "text wk", "wordAt wnn", "cursor wp",
        "cursor wp", "cursorGo b", "cursorGo b", "cursorSet s", "cursorAdd s", "cursorRemove ", "cursorCan b",
        "cursorPlace b", "house k", "knock "};

    public static void main(String[] args) {
        for (int run = 0; run < RUNS; run++) {
            run(run);
        }
        CHECK.end();
    }

    private static int random(int below) {
        seed = seed * 6364136223846793005L + 1442695040888963407L;
        return (int) ((seed >>> 33) % below);
    }

    private static void run(int run) {
        Allstreets x = new Allstreets();
        Model model = new Model();
        int corners = 2 + random(5);
        for (int call = 0; call < CALLS; call++) {
            String[] method = METHODS[random(METHODS.length)].split(" ", -1);
            String name = method[0];
            boolean isRare = name.equals("clear") || name.equals("words");
            boolean isOrder = name.equals("first") || name.equals("next");
            if (isRare && random(8) > 0 || isOrder && model.streets.size() > MOST_FOR_ORDER) {
                continue;
            }
            int[] a = arguments(method[1], corners, model.streets.size());
            Object want = model.call(name, a);
            Object got = answer(x, name, a);
            if (!want.equals(got)) {
                CHECK.fail("run " + run + ": " + name + Arrays.toString(a) + " answered " + got + ", due is " + want);
                return;
            }
            if (!stateOf(model, x)) {
                CHECK.fail("run " + run + ": after " + name + Arrays.toString(a) + " something is not as due");
                return;
            }
            if (call % 16 == 0 && (!x.isSound() || x.digest() != Face.digestOf(x))) {
                CHECK.fail("run " + run + ": not sound or another digest after " + name + Arrays.toString(a));
                return;
            }
        }
    }

    private static int[] arguments(String kinds, int corners, int streets) {
        int[] a = new int[kinds.length()];
        for (int i = 0; i < a.length; i++) {
            a[i] = argument(kinds.charAt(i), corners, streets);
            if (kinds.charAt(i) != 'b' && random(60) == 0) {
                int[] wrong = {-1, -2, 3, 10, 30, 31, Integer.MIN_VALUE, Integer.MAX_VALUE};
                a[i] = wrong[random(wrong.length)];
            }
        }
        return a;
    }

    private static int argument(char kind, int corners, int streets) {
        switch (kind) {
            case 'c':
                return random(corners);
            case 's':
                return random(Math.max(1, streets));
            case 'w':
            case 'k':
                return random(3);
            case 'b':
                return random(2);
            case 'p':
                return random(random(3) == 0 ? 12 : 4);
            case 'm':
                return 1 + random(random(4) == 0 ? 10 : corners);
            case 't':
                return random(10);
            case 'g':
                return 2 + random(4);
            case 'l':
                return 1 + random(4);
            case 'y':
                return random(31);
            default:
                return random(random(3) == 0 ? 30 : 9);
        }
    }

    private static boolean stateOf(Model model, Allstreets x) {
        for (int walk = 0; walk < 3; walk++) {
            for (int what = 0; what <= 1; what++) {
                if (!model.call("text", new int[] {walk, what}).equals(x.text(walk, what))) {
                    return false;
                }
            }
            for (int at = 0; at < x.length(walk); at++) {
                if (!model.call("stepAt", new int[] {walk, at}).equals((long) x.stepAt(walk, at))) {
                    return false;
                }
            }
            if (!model.call("house", new int[] {walk}).equals((long) x.house(walk))
                || !model.call("rule", new int[] {walk}).equals((long) x.rule(walk))) {
                return false;
            }
        }
        return model.call("cursorPlace", new int[] {1}).equals((long) x.cursorPlace(true));
    }

    private static Object answer(Allstreets x, String name, int[] a) {
        try {
            Object answer = Calls.call(x, name, a);
            if (answer instanceof Boolean isSo) {
                return isSo ? 1L : 0L;
            }
            return answer instanceof Integer number ? (Object) number.longValue() : answer;
        } catch (RuntimeException e) {
            return e.getClass().getSimpleName();
        }
    }
}
