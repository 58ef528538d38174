/** What can be read of an object by its other methods. */
final class Face {
    private Face() {
    }

    /** The checksum as promise 49 tells it, from the answers of the others. */
    static long digestOf(Allstreets x) {
        long d = 7692;
        d = d * 31 + x.streets();
        for (int street = 0; street < x.streets(); street++) {
            d = d * 31 + x.end(street, false);
            d = d * 31 + x.end(street, true);
        }
        for (int corner = 0; corner < 10; corner++) {
            d = d * 31 + x.ways(corner, 0);
            d = d * 31 + x.ways(corner, 1);
            d = d * 31 + (x.isStart(corner) ? 1 : 0);
        }
        d = d * 31 + x.odd();
        d = d * 31 + (x.hangs() ? 1 : 0);
        d = d * 31 + x.kind();
        for (int what = 0; what <= 2; what++) {
            d = d * 31 + x.rule(what);
        }
        for (int walk = 0; walk < 3; walk++) {
            d = d * 31 + x.length(walk);
            d = d * 31 + x.cornerAt(walk, 0);
            d = d * 31 + x.cornerAt(walk, x.length(walk));
            for (int at = 0; at < x.length(walk); at++) {
                d = d * 31 + x.stepAt(walk, at);
            }
            d = d * 31 + (x.is(walk, true) ? 1 : 0);
            d = d * 31 + x.turnOf(walk, walk == 2 ? 0 : walk + 1);
        }
        d = d * 31 + x.cursorPlace(true);
        d = d * 31 + x.cursorPlace(false);
        d = d * 31 + (x.cursorCan(true) ? 1 : 0);
        d = d * 31 + (x.cursorCan(false) ? 1 : 0);
        for (int what = 0; what <= 2; what++) {
            d = d * 31 + x.house(what);
        }
        return d * 31 + (x.isSound() ? 1 : 0);
    }

    /** All but house(). */
    static String stateOf(Allstreets x) {
        StringBuilder all = new StringBuilder();
        for (int street = 0; street < x.streets(); street++) {
            all.append(x.end(street, false)).append('>').append(x.end(street, true)).append(' ');
        }
        for (int what = 0; what <= 2; what++) {
            all.append(" rule ").append(x.rule(what));
        }
        for (int walk = 0; walk < 3; walk++) {
            all.append(" walk ").append(x.cornerAt(walk, 0)).append(':').append(stepsOf(x, walk));
        }
        all.append(" cursor ").append(x.cursorPlace(true)).append(x.cursorCan(true)).append(x.cursorCan(false));
        return all.toString();
    }

    /** The numbers of a walk's steps, as text() would join them. */
    static String stepsOf(Allstreets x, int walk) {
        StringBuilder all = new StringBuilder();
        for (int at = 0; at < x.length(walk); at++) {
            all.append(at == 0 ? "" : "-").append(x.stepAt(walk, at));
        }
        return all.toString();
    }

    /** A town of these streets, given as FROM and TO in turns. */
    static Allstreets townOf(int... ends) {
        Allstreets x = new Allstreets();
        for (int i = 0; i + 1 < ends.length; i += 2) {
            x.lay(ends[i], ends[i + 1]);
        }
        return x;
    }

    /** Begins a walk at a corner and walks these streets. */
    static void walk(Allstreets x, int walk, int corner, int... streets) {
        x.begin(walk, corner);
        for (int street : streets) {
            if (x.step(walk, street, false) == -9) {
                throw new IllegalStateException("the test walks a street that does not leave");
            }
        }
    }
}
