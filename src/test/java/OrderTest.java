import java.util.ArrayList;
import java.util.List;

/** Promises 27 and 28: first() and next(), against all whole walks of small towns. */
public final class OrderTest {
    private static final Check CHECK = new Check();
    private static long seed = 20261119;

    public static void main(String[] args) {
        for (int town = 0; town < 400; town++) {
            everyWalkOf(townAtRandom(1 + town % 8, 2 + town % 4, town % 2 == 1));
        }
        firstOnWhatWasThere();
        nextWithoutStreets();
        fullTowns();
        wrongCalls();
        CHECK.end();
    }

    private static int random(int below) {
        seed = seed * 6364136223846793005L + 1442695040888963407L;
        return (int) ((seed >>> 33) % below);
    }

    private static Allstreets townAtRandom(int streets, int corners, boolean isOneWay) {
        Allstreets x = new Allstreets();
        x.oneWay(isOneWay);
        int at = random(corners);
        for (int i = 0; i < streets; i++) {
            // Mostly one long walk, so that there is often a start.
            int to = random(corners);
            int from = random(6) == 0 ? random(corners) : at;
            if (!isOneWay && random(2) == 0) {
                x.lay(to, from);
            } else {
                x.lay(from, to);
            }
            at = to;
        }
        return x;
    }

    private static void everyWalkOf(Allstreets x) {
        for (int corner = 0; corner < 10; corner++) {
            List<String> walks = new ArrayList<>();
            list(x, corner, new ArrayList<>(), walks);
            CHECK.due("isStart(" + corner + ")", x.isStart(corner), !walks.isEmpty());
            int start = corner;
            if (walks.isEmpty()) {
                CHECK.refused(x, "first from no start", () -> x.first(0, start, true));
                CHECK.refused(x, "first from no start", () -> x.first(0, start, false));
            } else {
                upAndDown(x, corner, walks);
            }
        }
    }

    // In order, as the streets are tried from 0 on at each place.
    private static void list(Allstreets x, int corner, List<Integer> taken, List<String> walks) {
        if (taken.size() == x.streets()) {
            walks.add(taken.toString());
            return;
        }
        for (int street = 0; street < x.streets(); street++) {
            if (taken.contains(street)) {
                continue;
            }
            int from = x.end(street, false);
            int to = x.end(street, true);
            if (from == corner || x.rule(2) == 0 && to == corner) {
                taken.add(street);
                list(x, from == corner ? to : from, taken, walks);
                taken.remove(taken.size() - 1);
            }
        }
    }

    private static void upAndDown(Allstreets x, int corner, List<String> walks) {
        CHECK.act(x, "first, the greatest", () -> x.first(1, corner, false), x.streets());
        CHECK.due("the greatest", streetsOf(x, 1), walks.get(walks.size() - 1));
        CHECK.refused(x, "next from the greatest", () -> x.next(1, true));
        CHECK.act(x, "first, the least", () -> x.first(0, corner, true), x.streets());
        CHECK.due("begin", x.cornerAt(0, 0), corner);
        CHECK.due("the least", streetsOf(x, 0), walks.get(0));
        CHECK.refused(x, "next below the least", () -> x.next(0, false));
        for (int i = 1; i < walks.size() && i < 200; i++) {
            int place = firstUnlike(walks.get(i - 1), walks.get(i));
            CHECK.act(x, "next up", () -> x.next(0, true), place);
            CHECK.due("next up", streetsOf(x, 0), walks.get(i));
        }
        for (int i = walks.size() - 2; i >= 0 && i > walks.size() - 200; i--) {
            int place = firstUnlike(walks.get(i + 1), walks.get(i));
            CHECK.act(x, "next down", () -> x.next(1, false), place);
            CHECK.due("next down", streetsOf(x, 1), walks.get(i));
        }
        CHECK.due("begin stays", x.cornerAt(1, 0), corner);
    }

    private static int firstUnlike(String one, String two) {
        String[] these = one.split(", ");
        String[] those = two.split(", ");
        int place = 0;
        while (these[place].equals(those[place])) {
            place++;
        }
        return place;
    }

    private static String streetsOf(Allstreets x, int walk) {
        return "[" + x.text(walk, 1).replace("-", ", ") + "]";
    }

    private static void firstOnWhatWasThere() {
        Allstreets x = Face.townOf(0, 1, 1, 0, 0, 0);
        Face.walk(x, 0, 1, 1, 2);
        CHECK.act(x, "first over two steps", () -> x.first(0, 0, true), 3);
        CHECK.due("none of them is kept", x.text(0, 1), "0-1-2");
        CHECK.due("steps", Face.stepsOf(x, 0), "0-2-4");
        CHECK.act(x, "next(0, true)", () -> x.next(0, true), 0);
        CHECK.due("the other way round", Face.stepsOf(x, 0), "3-1-4");
        Face.walk(x, 1, 0, 0, 1);
        CHECK.refused(x, "next of one not whole", () -> x.next(1, true));
        CHECK.refused(x, "next of one not whole", () -> x.next(1, false));
    }

    private static void nextWithoutStreets() {
        Allstreets x = new Allstreets();
        CHECK.act(x, "first without streets", () -> x.first(0, 7, false), 0);
        CHECK.due("begin", x.cornerAt(0, 0), 7);
        CHECK.refused(x, "next without streets", () -> x.next(0, true));
        CHECK.refused(x, "next without streets", () -> x.next(0, false));
    }

    private static void fullTowns() {
        for (int kind = 0; kind < 4; kind++) {
            Allstreets x = new Allstreets();
            x.layRing(10, 1);
            x.layRing(10, kind < 2 ? 2 : 1);
            x.layRing(10, 3);
            x.oneWay(kind % 2 == 1);
            CHECK.act(x, "first of thirty", () -> x.first(0, 4, true), 30);
            CHECK.due("whole", x.is(0, true), true);
            CHECK.refused(x, "next below the least", () -> x.next(0, false));
            x.copy(0, 1);
            for (int i = 0; i < 20; i++) {
                x.copy(1, 2);
                int place = x.next(1, true);
                CHECK.due("from place on greater", x.stepAt(1, place) >> 1 > x.stepAt(2, place) >> 1, true);
                CHECK.due("still whole", x.is(1, true) && x.isSound(), true);
                CHECK.due("next down comes back", x.next(1, false), place);
                CHECK.due("next down comes back", x.same(1, 2), true);
                x.next(1, true);
            }
            CHECK.act(x, "first of thirty, the greatest", () -> x.first(2, 4, false), 30);
            CHECK.refused(x, "next above the greatest", () -> x.next(2, true));
        }
    }

    private static void wrongCalls() {
        Allstreets x = Face.townOf(0, 0);
        CHECK.throwsIndex(x, "first(3, 0)", () -> x.first(3, 0, true));
        CHECK.throwsIndex(x, "first(-1, 0)", () -> x.first(-1, 0, true));
        CHECK.throwsIndex(x, "first(0, 10)", () -> x.first(0, 10, true));
        CHECK.throwsIndex(x, "first(0, -1)", () -> x.first(0, -1, false));
        CHECK.throwsIndex(x, "next(3, true)", () -> x.next(3, true));
        CHECK.throwsIndex(x, "next(-1, false)", () -> x.next(-1, false));
    }
}
