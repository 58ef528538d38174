import java.util.ArrayList;
import java.util.List;

/**
 * What can be read of an object by its other methods, with as few calls as it takes: the document promises the
 * answers of an object's first 512 calls alone, and each of these counts, too.
 */
final class Face {
    private Face() {
    }

    /** The checksum as promise 49 tells it, from the answers of the others. */
    static long digestOf(Allstreets x) {
        long d = 7692;
        for (int value : valuesOf(x)) {
            d = d * 31 + value;
        }
        return d;
    }

    /** What the checksum is made of, in its order. */
    static List<Integer> valuesOf(Allstreets x) {
        List<Integer> all = new ArrayList<>();
        int streets = x.streets();
        all.add(streets);
        for (int street = 0; street < streets; street++) {
            all.addAll(List.of(x.end(street, false), x.end(street, true)));
        }
        for (int corner = 0; corner < 10; corner++) {
            all.addAll(List.of(x.ways(corner, 0), x.ways(corner, 1), x.isStart(corner) ? 1 : 0));
        }
        all.addAll(List.of(x.odd(), x.hangs() ? 1 : 0, x.kind(), x.rule(0), x.rule(1), x.rule(2)));
        for (int walk = 0; walk < 3; walk++) {
            int length = x.length(walk);
            all.addAll(List.of(length, x.cornerAt(walk, 0), x.cornerAt(walk, length)));
            for (int at = 0; at < length; at++) {
                all.add(x.stepAt(walk, at));
            }
            all.addAll(List.of(x.is(walk, true) ? 1 : 0, x.turnOf(walk, walk == 2 ? 0 : walk + 1)));
        }
        all.addAll(List.of(x.cursorPlace(true), x.cursorPlace(false)));
        all.addAll(List.of(x.cursorCan(true) ? 1 : 0, x.cursorCan(false) ? 1 : 0));
        all.addAll(List.of(x.house(0), x.house(1), x.house(2), x.isSound() ? 1 : 0));
        return all;
    }

    /** All but house(). */
    static String stateOf(Allstreets x) {
        StringBuilder all = new StringBuilder();
        int streets = x.streets();
        for (int street = 0; street < streets; street++) {
            all.append(x.end(street, false)).append('>').append(x.end(street, true)).append(' ');
        }
        for (int what = 0; what <= 2; what++) {
            all.append(" rule ").append(x.rule(what));
        }
        for (int walk = 0; walk < 3; walk++) {
            all.append(" walk ").append(x.cornerAt(walk, 0)).append(':').append(stepsOf(x, walk));
        }
        all.append(" cursor ").append(x.cursorPlace(true)).append(x.cursorCan(true)).append(x.cursorCan(false));
        return all.toString();
    }

    /** The numbers of a walk's steps, as text() would join them. */
    static String stepsOf(Allstreets x, int walk) {
        StringBuilder all = new StringBuilder();
        int length = x.length(walk);
        for (int at = 0; at < length; at++) {
            all.append(at == 0 ? "" : "-").append(x.stepAt(walk, at));
        }
        return all.toString();
    }

    /** A town of these streets, given as FROM and TO in turns. */
    static Allstreets townOf(int... ends) {
        Allstreets x = new Allstreets();
        for (int i = 0; i + 1 < ends.length; i += 2) {
            x.lay(ends[i], ends[i + 1]);
        }
        return x;
    }

    /** Begins a walk at a corner and walks these streets. */
    static void walk(Allstreets x, int walk, int corner, int... streets) {
        x.begin(walk, corner);
        for (int street : streets) {
            if (x.step(walk, street, false) == -9) {
                throw new IllegalStateException("the test walks a street that does not leave");
            }
        }
    }
}
