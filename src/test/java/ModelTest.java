import java.util.Arrays;

/** Promises 1 to 49, by long runs of calls, each answered by the class and by the model. */
public final class ModelTest {
    private static final int RUNS = 400;
    // Two calls of the object for each, and those of Face.digestOf() at the end: no more than 512 in all.
    private static final int CALLS = 130;
    // The model tries whole walks one by one: it is asked for them in small towns alone.
    private static final int MOST_FOR_ORDER = 10;
    private static final Check CHECK = new Check();
    private static long seed = 7692;

    // Each name with its arguments: c corner, s street, w walk, b boolean, p place, k what, m and t many and step,
    // g and l signs and length, y by, n a number up to 29.
    private static final String ASKED = "streets/end sb/ways ck/odd/hangs/kind/isStart c/rule k/length w/cornerAt wp/"
        + "stepAt wp/find ws/is wb/same ww/turnOf ww/text wk/wordAt wnn/cursorCan b/cursorPlace b/house k/knock/";
    private static final String ALL = ASKED + "lay cc/lay cc/layRing mt/words gl/close s/clear/oneWay b/turnTown/begin wc/"
        + "step wsb/step wsb/step wsb/back wb/on wb/complete wb/splice wwp/splice wwp/join ww/cut wppw/cut wppw/"
        + "turnRound w/rotate wy/first wcb/next wb/copy ww/cursor wp/cursorGo b/cursorSet s/cursorAdd s/cursorRemove";
    private static final String TOWN = "lay cc/lay cc/layRing mt/close s/close s/oneWay b/turnTown/begin wc/back wb/on wb/"
        + "kind/odd/hangs/isStart c/isStart c/ways ck";
    private static final String ROUNDS = "step wsb/step wsb/step wsb/back wb/on wb/complete wb/splice wwp/splice wwp/"
        + "splice wwp/splice wwp/join ww/join ww/cut wppw/cut wppw/cut wppw/cut wppw/turnRound w/rotate wy/copy ww/"
        + "begin wc/cursor wp/cursorGo b/turnOf ww/same ww";
    private static final String CURSOR = "cursor wp/cursorGo b/cursorGo b/cursorGo b/cursorSet s/cursorSet s/cursorSet s/"
        + "cursorAdd s/cursorAdd s/cursorAdd s/cursorRemove/cursorRemove/cursorCan b/turnTown/turnRound w/close s/lay cc";
    private static final String LOST = CURSOR + "/step wsb/back wb/on wb/rotate wy/copy ww/begin wc/cursor wp/cursor wp";
    private static final String WORDS = "on wb/complete wb/first wcb/next wb/rotate wy/back wb/begin wc/step wsb/text wk/"
        + "text wk/wordAt wnn/wordAt wnn/wordAt wnn/wordAt wnn/wordAt wnn/turnRound w/oneWay b/cut wppw/join ww/copy ww";
    private static final String ORDER = "first wcb/first wcb/next wb/next wb/next wb/next wb/next wb/next wb/oneWay b/"
        + "rotate wy/turnRound w/complete wb/cursor wp/cursorGo b/copy ww/text wk";
    private static final String[] MOODS = {ALL, TOWN, ROUNDS, CURSOR, LOST, WORDS, ORDER};

    public static void main(String[] args) {
        for (int run = 0; run < RUNS; run++) {
            for (String mood : MOODS) {
                run("run " + run + " of " + mood.substring(0, 9), mood);
            }
        }
        CHECK.end();
    }

    private static int random(int below) {
        seed = seed * 6364136223846793005L + 1442695040888963407L;
        return (int) ((seed >>> 33) % below);
    }

    private static void run(String name, String mood) {
        Allstreets x = new Allstreets();
        Model model = new Model();
        int corners = 1 + random(5);
        String[] methods = mood.split("/");
        int first = random(12);
        for (int call = 0; call < CALLS; call++) {
            // At first streets are laid, and walks go on over them.
            String start = mood.equals(WORDS) ? "words gl" : call == first ? "on wb" : "lay cc";
            String method = call <= first ? start : methods[random(methods.length)];
            boolean isOrder = method.startsWith("first ") || method.startsWith("next ");
            boolean isRare = method.equals("clear") || method.equals("words gl") && call > first;
            if (isRare && random(8) > 0 || isOrder && model.streets.size() > MOST_FOR_ORDER) {
                continue;
            }
            if (!isSameCall(name + ", call " + call, x, model, method, corners)) {
                return;
            }
        }
        CHECK.due(name + ": isSound", x.isSound(), true);
        CHECK.due(name + ": digest of all answers", x.digest(), Face.digestOf(x));
    }

    private static boolean isSameCall(String name, Allstreets x, Model model, String method, int corners) {
        String[] words = (method + " ").split(" ", -1);
        int[] a = arguments(words[1], corners, model);
        Object want = model.call(words[0], a);
        Object got = answer(x, words[0], a);
        if (!want.equals(got)) {
            CHECK.fail(name + ": " + words[0] + Arrays.toString(a) + " answered " + got + ", due is " + want);
        } else if (x.digest() != model.digest()) {
            CHECK.fail(name + ": after " + words[0] + Arrays.toString(a) + " something is not as due");
            return false;
        }
        return want.equals(got);
    }

    private static int[] arguments(String kinds, int corners, Model model) {
        int[] a = new int[kinds.length()];
        for (int i = 0; i < a.length; i++) {
            a[i] = argument(kinds.charAt(i), corners, model, a[0]);
            if (kinds.charAt(i) != 'b' && random(100) == 0) {
                int[] wrong = {-1, -2, 3, 10, 30, 31, Integer.MIN_VALUE, Integer.MAX_VALUE};
                a[i] = wrong[random(wrong.length)];
            }
        }
        return a;
    }

    // A place is one of the walk that the call names first, mostly.
    private static int argument(char kind, int corners, Model model, int walk) {
        switch (kind) {
            case 'c':
                return random(corners);
            case 's':
                return random(Math.max(1, model.streets.size()));
            case 'w':
            case 'k':
                return random(3);
            case 'b':
                return random(2);
            case 'p':
                return random(walk < 0 || walk > 2 || random(12) == 0 ? 32 : model.lengthOf(walk) + 1);
            case 'm':
                return 1 + random(random(4) == 0 ? 10 : corners);
            case 't':
                return random(10);
            case 'g':
                return 2 + random(4);
            case 'l':
                return 1 + random(4);
            case 'y':
                return random(31);
            default:
                return random(random(3) == 0 ? 30 : 9);
        }
    }

    private static Object answer(Allstreets x, String name, int[] a) {
        try {
            Object answer = Calls.call(x, name, a);
            if (answer instanceof Boolean isSo) {
                return isSo ? 1L : 0L;
            }
            return answer instanceof Integer number ? (Object) number.longValue() : answer;
        } catch (RuntimeException e) {
            return e.getClass().getSimpleName();
        }
    }
}
