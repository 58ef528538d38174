import java.util.ArrayList;
import java.util.List;

/** Promises 27 and 28: first() and next(), against all whole walks of small towns. */
public final class OrderTest {
    private static final Check CHECK = new Check();
    private static long seed = 20261119;

    public static void main(String[] args) {
        for (int town = 0; town < 400; town++) {
            everyWalkOf(townAtRandom(1 + town % 8, 2 + town % 4, town % 2 == 1));
        }
        firstOnWhatWasThere();
        nextWithoutStreets();
        for (int kind = 0; kind < 4; kind++) {
            fullTown(kind);
        }
        wrongCalls();
        CHECK.end();
    }

    /** The streets, FROM and TO in turns, of which new objects are made: none of them is called too often. */
    private record Plan(int[] ends, boolean isOneWay) {
        Allstreets laid() {
            Allstreets x = Face.townOf(ends);
            x.oneWay(isOneWay);
            return x;
        }

        int streets() {
            return ends.length / 2;
        }
    }

    private static int random(int below) {
        seed = seed * 6364136223846793005L + 1442695040888963407L;
        return (int) ((seed >>> 33) % below);
    }

    private static Plan townAtRandom(int streets, int corners, boolean isOneWay) {
        int[] ends = new int[2 * streets];
        int at = random(corners);
        for (int i = 0; i < streets; i++) {
            // Mostly one long walk, so that there is often a start.
            int to = random(corners);
            int from = random(6) == 0 ? random(corners) : at;
            boolean isTurned = !isOneWay && random(2) == 0;
            ends[2 * i] = isTurned ? to : from;
            ends[2 * i + 1] = isTurned ? from : to;
            at = to;
        }
        return new Plan(ends, isOneWay);
    }

    private static void everyWalkOf(Plan plan) {
        Allstreets x = plan.laid();
        for (int corner = 0; corner < 10; corner++) {
            List<List<Integer>> walks = new ArrayList<>();
            list(plan, corner, new ArrayList<>(), walks);
            CHECK.due("isStart(" + corner + ")", x.isStart(corner), !walks.isEmpty());
            int start = corner;
            if (walks.isEmpty()) {
                Allstreets y = plan.laid();
                CHECK.refused(y, "first from no start", () -> y.first(0, start, true));
                CHECK.refused(y, "first from no start", () -> y.first(0, start, false));
            } else {
                leastAndGreatest(plan, corner, walks);
                upAndDown(plan, corner, walks);
            }
        }
    }

    // In order, as the streets are tried from 0 on at each place.
    private static void list(Plan plan, int corner, List<Integer> taken, List<List<Integer>> walks) {
        if (taken.size() == plan.streets()) {
            walks.add(new ArrayList<>(taken));
            return;
        }
        for (int street = 0; street < plan.streets(); street++) {
            if (taken.contains(street)) {
                continue;
            }
            int from = plan.ends()[2 * street];
            int to = plan.ends()[2 * street + 1];
            if (from == corner || !plan.isOneWay() && to == corner) {
                taken.add(street);
                list(plan, from == corner ? to : from, taken, walks);
                taken.remove(taken.size() - 1);
            }
        }
    }

    private static void leastAndGreatest(Plan plan, int corner, List<List<Integer>> walks) {
        Allstreets x = plan.laid();
        CHECK.act(x, "first, the greatest", () -> x.first(1, corner, false), plan.streets());
        CHECK.due("the greatest", x.text(1, 1), textOf(walks.get(walks.size() - 1)));
        CHECK.due("begin", x.cornerAt(1, 0), corner);
        CHECK.refused(x, "next from the greatest", () -> x.next(1, true));
        CHECK.act(x, "first, the least", () -> x.first(0, corner, true), plan.streets());
        CHECK.due("the least", x.text(0, 1), textOf(walks.get(0)));
        CHECK.due("begin", x.cornerAt(0, 0), corner);
        CHECK.refused(x, "next below the least", () -> x.next(0, false));
    }

    // The first 200 upwards and the last 200 downwards, some 20 by one object.
    private static void upAndDown(Plan plan, int corner, List<List<Integer>> walks) {
        int last = walks.size() - 1;
        for (int i = 0; i < last && i < 200; i += 20) {
            go(plan, corner, walks, i, Math.min(i + 20, last), true);
        }
        for (int i = last; i > 0 && i > last - 200; i -= 20) {
            go(plan, corner, walks, i, Math.max(i - 20, 0), false);
        }
    }

    private static void go(Plan plan, int corner, List<List<Integer>> walks, int from, int to, boolean isUp) {
        Allstreets x = plan.laid();
        Face.walk(x, 0, corner, walks.get(from).stream().mapToInt(street -> street).toArray());
        for (int i = from; i != to; i += isUp ? 1 : -1) {
            List<Integer> due = walks.get(isUp ? i + 1 : i - 1);
            CHECK.act(x, "next", () -> x.next(0, isUp), firstUnlike(walks.get(i), due));
            CHECK.due("next", x.text(0, 1), textOf(due));
        }
        CHECK.due("begin stays", x.cornerAt(0, 0), corner);
    }

    private static String textOf(List<Integer> streets) {
        StringBuilder all = new StringBuilder();
        for (int street : streets) {
            all.append(all.isEmpty() ? "" : "-").append(street);
        }
        return all.toString();
    }

    private static int firstUnlike(List<Integer> one, List<Integer> other) {
        int place = 0;
        while (one.get(place).equals(other.get(place))) {
            place++;
        }
        return place;
    }

    private static void firstOnWhatWasThere() {
        Allstreets x = Face.townOf(0, 1, 1, 0, 0, 0);
        Face.walk(x, 0, 1, 1, 2);
        CHECK.act(x, "first over two steps", () -> x.first(0, 0, true), 3);
        CHECK.due("none of them is kept", x.text(0, 1), "0-1-2");
        CHECK.due("steps", Face.stepsOf(x, 0), "0-2-4");
        CHECK.act(x, "next(0, true)", () -> x.next(0, true), 0);
        CHECK.due("the other way round", Face.stepsOf(x, 0), "3-1-4");
        Face.walk(x, 1, 0, 0, 1);
        CHECK.refused(x, "next of one not whole", () -> x.next(1, true));
        CHECK.refused(x, "next of one not whole", () -> x.next(1, false));
    }

    private static void nextWithoutStreets() {
        Allstreets x = new Allstreets();
        CHECK.act(x, "first without streets", () -> x.first(0, 7, false), 0);
        CHECK.due("begin", x.cornerAt(0, 0), 7);
        CHECK.refused(x, "next without streets", () -> x.next(0, true));
        CHECK.refused(x, "next without streets", () -> x.next(0, false));
    }

    private static void fullTown(int kind) {
        String run = "layRing 10 1; layRing 10 " + (kind < 2 ? 2 : 1) + "; layRing 10 3; oneWay " + (kind % 2 == 1);
        Allstreets least = Calls.after(run);
        CHECK.act(least, "first of thirty", () -> least.first(0, 4, true), 30);
        CHECK.due("whole", least.is(0, true), true);
        CHECK.refused(least, "next below the least", () -> least.next(0, false));
        Allstreets greatest = Calls.after(run);
        CHECK.act(greatest, "first of thirty, the greatest", () -> greatest.first(2, 4, false), 30);
        CHECK.refused(greatest, "next above the greatest", () -> greatest.next(2, true));
        Allstreets x = Calls.after(run + "; first 1 4 true");
        for (int i = 0; i < 40; i++) {
            x.copy(1, 2);
            int place = x.next(1, true);
            CHECK.due("from place on greater", x.stepAt(1, place) >> 1 > x.stepAt(2, place) >> 1, true);
            CHECK.due("still whole", x.is(1, true) && x.isSound(), true);
            CHECK.due("next down comes back", x.next(1, false), place);
            CHECK.due("next down comes back", x.same(1, 2), true);
            x.next(1, true);
        }
    }

    private static void wrongCalls() {
        Allstreets x = Face.townOf(0, 0);
        CHECK.throwsIndex(x, "first(3, 0)", () -> x.first(3, 0, true));
        CHECK.throwsIndex(x, "first(-1, 0)", () -> x.first(-1, 0, true));
        CHECK.throwsIndex(x, "first(0, 10)", () -> x.first(0, 10, true));
        CHECK.throwsIndex(x, "first(0, -1)", () -> x.first(0, -1, false));
        CHECK.throwsIndex(x, "next(3, true)", () -> x.next(3, true));
        CHECK.throwsIndex(x, "next(-1, false)", () -> x.next(-1, false));
    }
}
