import java.util.ArrayList;
import java.util.Arrays;
import java.util.Collections;
import java.util.HashMap;
import java.util.HashSet;
import java.util.List;
import java.util.Map;
import java.util.Set;

/**
 * The document once more, slow and plain: streets are objects, a step knows its corners, and whole walks are
 * found by trying. The answers are longs (a boolean 1 or 0), or a String, or the name of an exception.
 */
final class Model {
    static final String INDEX = "IndexOutOfBoundsException";
    static final String ARGUMENT = "IllegalArgumentException";
    private static final Long CANNOT = -9L;

    private static final class Street {
        int from;
        int to;

        Street(int from, int to) {
            this.from = from;
            this.to = to;
        }
    }

    private record Step(Street street, boolean isBack) {
        int source() {
            return isBack ? street.to : street.from;
        }

        int goal() {
            return isBack ? street.from : street.to;
        }
    }

    private static final class Walk {
        int begin;
        List<Step> steps = new ArrayList<>();

        int corner(int place) {
            return place == 0 ? begin : steps.get(place - 1).goal();
        }

        int end() {
            return corner(steps.size());
        }

        boolean has(Street street) {
            return place(street) >= 0;
        }

        int place(Street street) {
            for (int i = 0; i < steps.size(); i++) {
                if (steps.get(i).street() == street) {
                    return i;
                }
            }
            return -1;
        }

        void set(int corner, List<Step> row) {
            begin = corner;
            steps = new ArrayList<>(row);
        }
    }

    final List<Street> streets = new ArrayList<>();
    private final Walk[] walks = {new Walk(), new Walk(), new Walk()};
    private boolean oneWay;
    private int signs;
    private int wordLength;
    private int cursorWalk = -1;
    private int place;
    private int told = -1;
    private boolean lost;
    private long acts;
    private long refusals;
    private long knocks;

    /** Calls the method of this name; booleans are given as 1 or 0. */
    Object call(String name, int[] a) {
        Object answer = exception(name, a);
        if (answer == null) {
            answer = doCall(name, a);
            if (isAct(name)) {
                if (answer.equals(CANNOT)) {
                    refusals++;
                } else {
                    acts++;
                }
            }
        }
        return answer;
    }

    int lengthOf(int walk) {
        return walks[walk].steps.size();
    }

    /** The checksum, for which an object is always sound. */
    long digest() {
        List<Object> all = new ArrayList<>(List.of((long) streets.size()));
        for (Street street : streets) {
            all.addAll(List.of((long) street.from, (long) street.to));
        }
        for (int corner = 0; corner < 10; corner++) {
            all.addAll(List.of(ways(streets, corner, 0), ways(streets, corner, 1), truth(isStart(streets, corner))));
        }
        all.addAll(List.of((long) odd(streets).size(), truth(hangs(streets)), kind()));
        all.addAll(List.of((long) signs, (long) wordLength, truth(oneWay)));
        for (int i = 0; i < 3; i++) {
            Walk walk = walks[i];
            all.addAll(List.of((long) walk.steps.size(), (long) walk.begin, (long) walk.end()));
            walk.steps.forEach(step -> all.add(number(step)));
            all.addAll(List.of(truth(walk.steps.size() == streets.size()), turnOf(walk, walks[(i + 1) % 3])));
        }
        for (String name : List.of("cursorPlace", "cursorCan")) {
            all.addAll(List.of(doCall(name, new int[] {1}), doCall(name, new int[] {0})));
        }
        all.addAll(List.of(acts, refusals, knocks, 1L));
        long d = 7692;
        for (Object value : all) {
            d = d * 31 + (Long) value;
        }
        return d;
    }

    static boolean isAct(String name) {
        return List.of("lay", "layRing", "words", "close", "clear", "oneWay", "turnTown", "begin", "step", "back", "on",
            "complete", "splice", "join", "cut", "turnRound", "rotate", "first", "next", "copy", "cursor", "cursorGo",
            "cursorSet", "cursorAdd", "cursorRemove").contains(name);
    }

    private static boolean out(int number, int least, int most) {
        return number < least || number > most;
    }

    private String index(boolean isWrong) {
        return isWrong ? INDEX : null;
    }

    private String argument(boolean isWrong) {
        return isWrong ? ARGUMENT : null;
    }

    private boolean noWalk(int walk) {
        return out(walk, 0, 2);
    }

    private boolean noStreet(int street) {
        return out(street, 0, streets.size() - 1);
    }

    private boolean noPlace(int walk, int at) {
        return out(at, 0, walks[walk].steps.size());
    }

    private String exception(String name, int[] a) {
        switch (name) {
            case "lay":
                return index(out(a[0], 0, 9) || out(a[1], 0, 9));
            case "layRing":
                return argument(out(a[0], 1, 10) || out(a[1], 0, 9));
            case "words":
                return argument(out(a[0], 2, 5) || out(a[1], 1, 4));
            case "close":
            case "end":
            case "cursorSet":
            case "cursorAdd":
                return index(noStreet(a[0]));
            case "ways":
                return out(a[0], 0, 9) ? INDEX : argument(out(a[1], 0, 2));
            case "isStart":
                return index(out(a[0], 0, 9));
            case "rule":
            case "house":
                return argument(out(a[0], 0, 2));
            case "begin":
            case "first":
                return index(noWalk(a[0]) || out(a[1], 0, 9));
            case "step":
            case "find":
                return index(noWalk(a[0]) || noStreet(a[1]));
            case "back":
            case "on":
            case "complete":
            case "turnRound":
            case "next":
            case "length":
            case "is":
                return index(noWalk(a[0]));
            case "splice":
                return index(noWalk(a[0]) || noWalk(a[1]) || noPlace(a[0], a[2]));
            case "join":
            case "copy":
            case "same":
            case "turnOf":
                return index(noWalk(a[0]) || noWalk(a[1]));
            case "cut":
                return index(noWalk(a[0]) || noWalk(a[3]) || noPlace(a[0], a[1]) || noPlace(a[0], a[2]));
            case "rotate":
                return noWalk(a[0]) ? INDEX : argument(out(a[1], 0, 30));
            case "cornerAt":
            case "cursor":
                return index(noWalk(a[0]) || noPlace(a[0], a[1]));
            case "stepAt":
                return index(noWalk(a[0]) || out(a[1], 0, walks[a[0]].steps.size() - 1));
            case "text":
                return noWalk(a[0]) ? INDEX : argument(out(a[1], 0, 2));
            case "wordAt":
                return noWalk(a[0]) ? INDEX : argument(out(a[1], 0, 29) || out(a[2], 0, 29));
            default:
                return null;
        }
    }

    private Object doCall(String name, int[] a) {
        switch (name) {
            case "lay":
                return layAll(List.of(new Street(a[0], a[1])), -1);
            case "layRing":
                List<Street> ring = new ArrayList<>();
                for (int k = 0; k < a[0]; k++) {
                    ring.add(new Street(k, (k + a[1]) % a[0]));
                }
                return layAll(ring, 0);
            case "words":
                return words(a[0], a[1]);
            case "close":
                return close(streets.get(a[0]));
            case "clear":
                return clear();
            case "oneWay":
                return oneWay(a[0] == 1);
            case "turnTown":
                return turnTown();
            case "streets":
                return (long) streets.size();
            case "end":
                return (long) (a[1] == 1 ? streets.get(a[0]).to : streets.get(a[0]).from);
            case "ways":
                return ways(streets, a[0], a[1]);
            case "odd":
                return (long) odd(streets).size();
            case "hangs":
                return truth(hangs(streets));
            case "kind":
                return kind();
            case "isStart":
                return truth(isStart(streets, a[0]));
            case "rule":
                return a[0] == 2 ? truth(oneWay) : (Object) (long) (a[0] == 0 ? signs : wordLength);
            case "house":
                return a[0] == 0 ? acts : a[0] == 1 ? refusals : knocks;
            case "knock":
                return ++knocks;
            case "cursor":
                cursorWalk = a[0];
                place = a[1];
                told = -1;
                lost = false;
                return (long) walks[a[0]].corner(a[1]);
            case "cursorGo":
                return cursorGo(a[0] == 1);
            case "cursorSet":
                return cursorSet(streets.get(a[0]));
            case "cursorAdd":
                return cursorAdd(streets.get(a[0]));
            case "cursorRemove":
                return cursorRemove();
            case "cursorCan":
                return truth(hasCursor() && (a[0] == 1 ? place < walks[cursorWalk].steps.size() : place > 0));
            case "cursorPlace":
                return hasCursor() ? place - (a[0] == 1 ? 0L : 1L) : -2L;
            default:
                return doWalkCall(name, walks[a[0]], a);
        }
    }

    private Object doWalkCall(String name, Walk walk, int[] a) {
        switch (name) {
            case "begin":
                long had = walk.steps.size();
                lose(walk, had > 0);
                walk.set(a[1], List.of());
                return had;
            case "step":
                return step(walk, streets.get(a[1]), a[2] == 1);
            case "back":
                return back(walk, a[1] == 1);
            case "on":
                return on(walk, a[1] == 1);
            case "complete":
                return complete(walk, a[1] == 1);
            case "splice":
                return splice(walk, walks[a[1]], a[2]);
            case "join":
                return join(walk, walks[a[1]]);
            case "cut":
                return cut(walk, a[1], a[2], walks[a[3]]);
            case "turnRound":
                return turnRound(walk);
            case "rotate":
                return rotate(walk, a[1]);
            case "first":
                return first(walk, a[1], a[2] == 1);
            case "next":
                return next(walk, a[1] == 1);
            case "copy":
                return copy(walk, walks[a[1]]);
            case "length":
                return (long) walk.steps.size();
            case "cornerAt":
                return (long) walk.corner(a[1]);
            case "stepAt":
                return number(walk.steps.get(a[1]));
            case "find":
                return (long) walk.place(streets.get(a[1]));
            case "is":
                return truth(a[1] == 1 ? walk.steps.size() == streets.size() : walk.end() == walk.begin);
            case "same":
                return truth(isSame(walk, walks[a[1]]));
            case "turnOf":
                return turnOf(walk, walks[a[1]]);
            case "text":
                return text(walk, a[1]);
            case "wordAt":
                return wordAt(walk, a[1], a[2]);
            default:
                throw new IllegalStateException("the model has no " + name);
        }
    }

    private static Object truth(boolean isSo) {
        return isSo ? 1L : 0L;
    }

    private long number(Step step) {
        return 2L * streets.indexOf(step.street()) + (step.isBack() ? 1 : 0);
    }

    // ---- the town

    private Object layAll(List<Street> laid, int less) {
        if (streets.size() + laid.size() > 30) {
            return CANNOT;
        }
        streets.addAll(laid);
        endWords();
        return (long) streets.size() + less;
    }

    private void endWords() {
        signs = 0;
        wordLength = 0;
    }

    private Object clear() {
        long gone = streets.size();
        streets.clear();
        endWords();
        oneWay = false;
        for (Walk walk : walks) {
            walk.set(0, List.of());
        }
        cursorWalk = -1;
        return gone;
    }

    private Object words(int signsThen, int length) {
        List<String> row = new ArrayList<>(List.of(""));
        for (int i = 0; i < length; i++) {
            List<String> longer = new ArrayList<>();
            for (String word : row) {
                for (int sign = 0; sign < signsThen; sign++) {
                    longer.add(word + sign);
                }
            }
            row = longer;
        }
        if (row.size() > 30) {
            return CANNOT;
        }
        clear();
        oneWay = true;
        signs = signsThen;
        wordLength = length;
        for (String word : row) {
            streets.add(new Street(value(word.substring(0, length - 1)), value(word.substring(1))));
        }
        return (long) streets.size();
    }

    private int value(String word) {
        return word.isEmpty() ? 0 : Integer.parseInt(word, signs);
    }

    private Object close(Street street) {
        for (Walk walk : walks) {
            if (walk.has(street)) {
                return CANNOT;
            }
        }
        streets.remove(street);
        endWords();
        return (long) streets.size();
    }

    private Object oneWay(boolean isOneWay) {
        for (Walk walk : walks) {
            if (isOneWay && walk.steps.stream().anyMatch(Step::isBack)) {
                return CANNOT;
            }
        }
        boolean was = oneWay;
        oneWay = isOneWay;
        return truth(was != isOneWay);
    }

    private Object turnTown() {
        for (Walk walk : walks) {
            walk.begin = walk.end();
            Collections.reverse(walk.steps);
        }
        for (Street street : streets) {
            int from = street.from;
            street.from = street.to;
            street.to = from;
        }
        endWords();
        return (long) streets.size();
    }

    private static Object ways(List<Street> among, int corner, int what) {
        long many = 0;
        for (Street street : among) {
            many += what != 2 && street.from == corner ? 1 : 0;
            many += what != 1 && street.to == corner ? 1 : 0;
        }
        return many;
    }

    private static long waysOf(List<Street> among, int corner, int what) {
        return (Long) ways(among, corner, what);
    }

    private List<Integer> odd(List<Street> among) {
        List<Integer> all = new ArrayList<>();
        for (int corner = 0; corner < 10; corner++) {
            long outs = waysOf(among, corner, 1);
            long ins = waysOf(among, corner, 2);
            if (oneWay ? outs != ins : (outs + ins) % 2 == 1) {
                all.add(corner);
            }
        }
        return all;
    }

    private static boolean hangs(List<Street> among) {
        if (among.isEmpty()) {
            return true;
        }
        Set<Street> reached = new HashSet<>();
        List<Street> toLookAt = new ArrayList<>(List.of(among.get(0)));
        reached.add(among.get(0));
        while (!toLookAt.isEmpty()) {
            Street one = toLookAt.remove(toLookAt.size() - 1);
            for (Street other : among) {
                if (other.from == one.from || other.from == one.to || other.to == one.from || other.to == one.to) {
                    if (reached.add(other)) {
                        toLookAt.add(other);
                    }
                }
            }
        }
        return reached.size() == among.size();
    }

    private boolean isStart(List<Street> among, int corner) {
        if (!hangs(among)) {
            return false;
        }
        List<Integer> odd = odd(among);
        if (among.isEmpty()) {
            return true;
        }
        if (odd.isEmpty()) {
            return waysOf(among, corner, 0) > 0;
        }
        return odd.size() == 2 && odd.contains(corner)
            && (!oneWay || waysOf(among, corner, 1) == waysOf(among, corner, 2) + 1);
    }

    private Object kind() {
        if (hangs(streets) && odd(streets).isEmpty()) {
            return 2L;
        }
        for (int corner = 0; corner < 10; corner++) {
            if (isStart(streets, corner)) {
                return 1L;
            }
        }
        return 0L;
    }

    // ---- the walks

    private void lose(Walk walk, boolean isChanged) {
        if (isChanged && cursorWalk >= 0 && walks[cursorWalk] == walk) {
            lost = true;
        }
    }

    private Step leaving(Street street, int corner) {
        if (street.from == corner) {
            return new Step(street, false);
        }
        return !oneWay && street.to == corner ? new Step(street, true) : null;
    }

    private Step coming(Street street, int corner) {
        if (street.to == corner) {
            return new Step(street, false);
        }
        return !oneWay && street.from == corner ? new Step(street, true) : null;
    }

    private Object step(Walk walk, Street street, boolean isAhead) {
        Step step = isAhead ? coming(street, walk.begin) : leaving(street, walk.end());
        if (walk.has(street) || step == null) {
            return CANNOT;
        }
        lose(walk, true);
        if (isAhead) {
            walk.steps.add(0, step);
            walk.begin = step.source();
            return (long) walk.begin;
        }
        walk.steps.add(step);
        return (long) walk.end();
    }

    private Object back(Walk walk, boolean isFirst) {
        if (walk.steps.isEmpty()) {
            return CANNOT;
        }
        lose(walk, true);
        Step gone = walk.steps.remove(isFirst ? 0 : walk.steps.size() - 1);
        if (isFirst) {
            walk.begin = gone.goal();
        }
        return number(gone);
    }

    private List<Step> greedy(Walk walk, int corner, boolean isLeast) {
        List<Street> order = new ArrayList<>(streets);
        if (!isLeast) {
            Collections.reverse(order);
        }
        List<Step> came = new ArrayList<>();
        int at = corner;
        boolean goes = true;
        while (goes) {
            goes = false;
            for (Street street : order) {
                Step step = leaving(street, at);
                if (step != null && !walk.has(street) && came.stream().noneMatch(s -> s.street() == street)) {
                    came.add(step);
                    at = step.goal();
                    goes = true;
                    break;
                }
            }
        }
        return came;
    }

    private Object on(Walk walk, boolean isLeast) {
        List<Step> came = greedy(walk, walk.end(), isLeast);
        lose(walk, !came.isEmpty());
        walk.steps.addAll(came);
        return (long) came.size();
    }

    private Object complete(Walk walk, boolean isLeast) {
        if (!isStart(streets, walk.begin)) {
            return CANNOT;
        }
        int had = walk.steps.size();
        walk.steps.addAll(greedy(walk, walk.end(), isLeast));
        for (int p = 0; p <= walk.steps.size(); p++) {
            walk.steps.addAll(p, greedy(walk, walk.corner(p), isLeast));
        }
        lose(walk, walk.steps.size() > had);
        return (long) walk.steps.size() - had;
    }

    private boolean cannotComeIn(Walk walk, Walk other) {
        return walk == other || other.steps.isEmpty() || other.end() != other.begin
            || other.steps.stream().anyMatch(s -> walk.has(s.street()));
    }

    private Object splice(Walk walk, Walk other, int at) {
        if (cannotComeIn(walk, other) || other.begin != walk.corner(at)) {
            return CANNOT;
        }
        lose(walk, true);
        lose(other, true);
        walk.steps.addAll(at, other.steps);
        other.steps.clear();
        return (long) walk.steps.size();
    }

    private Object join(Walk walk, Walk other) {
        if (cannotComeIn(walk, other)) {
            return CANNOT;
        }
        for (int p = 0; p <= walk.steps.size(); p++) {
            for (int by = 0; by < other.steps.size(); by++) {
                if (other.corner(by) == walk.corner(p)) {
                    turn(other, by);
                    splice(walk, other, p);
                    return (long) p;
                }
            }
        }
        return CANNOT;
    }

    private static void turn(Walk walk, int by) {
        for (int i = 0; i < by && !walk.steps.isEmpty(); i++) {
            walk.begin = walk.corner(1);
            walk.steps.add(walk.steps.remove(0));
        }
    }

    private Object cut(Walk walk, int from, int to, Walk other) {
        if (walk == other || from >= to || walk.corner(from) != walk.corner(to)) {
            return CANNOT;
        }
        lose(walk, true);
        lose(other, true);
        List<Step> part = walk.steps.subList(from, to);
        other.set(walk.corner(from), part);
        part.clear();
        return (long) to - from;
    }

    private Object turnRound(Walk walk) {
        if (oneWay) {
            return CANNOT;
        }
        List<Step> turned = new ArrayList<>();
        for (Step step : walk.steps) {
            turned.add(0, step.source() == step.goal() ? step : new Step(step.street(), !step.isBack()));
        }
        walk.set(walk.end(), turned);
        return (long) walk.begin;
    }

    private Object rotate(Walk walk, int by) {
        if (walk.end() != walk.begin) {
            return CANNOT;
        }
        lose(walk, by > 0 && !walk.steps.isEmpty());
        turn(walk, by);
        return (long) walk.begin;
    }

    private Object copy(Walk walk, Walk into) {
        if (walk == into) {
            return CANNOT;
        }
        lose(into, !walk.steps.isEmpty() || !into.steps.isEmpty());
        into.set(walk.begin, walk.steps);
        return (long) into.steps.size();
    }

    // Which sets of streets can all be walked from a corner, found by trying and kept.
    private boolean canWalk(List<Street> left, int corner, Map<String, Boolean> known) {
        if (left.isEmpty()) {
            return true;
        }
        String key = corner + ":" + bits(left);
        Boolean can = known.get(key);
        if (can == null) {
            can = false;
            for (int i = 0; i < left.size() && !can; i++) {
                Step step = leaving(left.get(i), corner);
                can = step != null && canWalk(without(left, left.get(i)), step.goal(), known);
            }
            known.put(key, can);
        }
        return can;
    }

    private int bits(List<Street> some) {
        return some.stream().mapToInt(s -> 1 << streets.indexOf(s)).sum();
    }

    private static List<Street> without(List<Street> some, Street one) {
        List<Street> rest = new ArrayList<>(some);
        rest.remove(one);
        return rest;
    }

    private List<Step> extreme(List<Street> left, int corner, boolean isLeast, Map<String, Boolean> known) {
        List<Street> order = new ArrayList<>(left);
        if (!isLeast) {
            Collections.reverse(order);
        }
        for (Street street : order) {
            Step step = leaving(street, corner);
            if (step != null && canWalk(without(left, street), step.goal(), known)) {
                List<Step> all = new ArrayList<>(List.of(step));
                all.addAll(extreme(without(left, street), step.goal(), isLeast, known));
                return all;
            }
        }
        return List.of();
    }

    private Object first(Walk walk, int corner, boolean isLeast) {
        if (!isStart(streets, corner)) {
            return CANNOT;
        }
        List<Step> all = extreme(streets, corner, isLeast, new HashMap<>());
        lose(walk, !walk.steps.isEmpty() || !all.isEmpty());
        walk.set(corner, all);
        return (long) all.size();
    }

    private Object next(Walk walk, boolean isUp) {
        if (walk.steps.size() != streets.size()) {
            return CANNOT;
        }
        Map<String, Boolean> known = new HashMap<>();
        for (int p = streets.size() - 1; p >= 0; p--) {
            List<Street> left = new ArrayList<>();
            for (Street street : streets) {
                if (walk.place(street) >= p) {
                    left.add(street);
                }
            }
            if (!isUp) {
                Collections.reverse(left);
            }
            int old = streets.indexOf(walk.steps.get(p).street());
            for (Street street : left) {
                boolean isBeyond = isUp ? streets.indexOf(street) > old : streets.indexOf(street) < old;
                Step step = leaving(street, walk.corner(p));
                List<Street> rest = without(left, street);
                if (isBeyond && step != null && canWalk(rest, step.goal(), known)) {
                    rest.sort((s, t) -> streets.indexOf(s) - streets.indexOf(t));
                    List<Step> all = new ArrayList<>(walk.steps.subList(0, p));
                    all.add(step);
                    all.addAll(extreme(rest, step.goal(), isUp, known));
                    lose(walk, true);
                    walk.set(walk.begin, all);
                    return (long) p;
                }
            }
        }
        return CANNOT;
    }

    private static boolean isSame(Walk walk, Walk other) {
        return walk.begin == other.begin && walk.steps.equals(other.steps);
    }

    private static Object turnOf(Walk walk, Walk other) {
        Walk turned = new Walk();
        turned.set(walk.begin, walk.steps);
        for (long by = 0; by <= 30; by++) {
            if (isSame(turned, other)) {
                return by;
            }
            if (walk.end() != walk.begin) {
                return -1L;
            }
            turn(turned, 1);
        }
        return -1L;
    }

    private Object text(Walk walk, int what) {
        List<String> all = new ArrayList<>();
        for (int p = 0; what == 0 && p <= walk.steps.size(); p++) {
            all.add(Integer.toString(walk.corner(p)));
        }
        for (Step step : walk.steps) {
            int street = streets.indexOf(step.street());
            if (what == 1) {
                all.add(Integer.toString(street));
            } else if (what == 2 && signs > 0) {
                all.add(Integer.toString(street % signs));
            }
        }
        return String.join("-", all);
    }

    private Object wordAt(Walk walk, int word, int from) {
        if (signs == 0 || word >= streets.size()) {
            return -1L;
        }
        String digits = Integer.toString(word, signs);
        String wanted = "0".repeat(wordLength - digits.length()) + digits;
        String round = ((String) text(walk, 2)).replace("-", "");
        for (int p = from; p < round.length(); p++) {
            if (round.repeat(5).startsWith(wanted, p)) {
                return (long) p;
            }
        }
        return -1L;
    }

    // ---- the cursor

    private boolean hasCursor() {
        return cursorWalk >= 0 && !lost;
    }

    private Object cursorGo(boolean isOn) {
        int asked = isOn ? place : place - 1;
        if (!hasCursor() || out(asked, 0, walks[cursorWalk].steps.size() - 1)) {
            return CANNOT;
        }
        told = asked;
        place = isOn ? place + 1 : place - 1;
        return number(walks[cursorWalk].steps.get(asked));
    }

    private Object cursorSet(Street street) {
        if (!hasCursor() || told < 0) {
            return CANNOT;
        }
        Walk walk = walks[cursorWalk];
        Step old = walk.steps.get(told);
        if (walk.has(street) && street != old.street()) {
            return CANNOT;
        }
        for (Step step : Arrays.asList(new Step(street, false), new Step(street, true))) {
            if (step.source() == old.source() && step.goal() == old.goal() && !(oneWay && step.isBack())) {
                walk.steps.set(told, step);
                return number(old);
            }
        }
        return CANNOT;
    }

    private Object cursorAdd(Street street) {
        if (!hasCursor() || walks[cursorWalk].has(street)) {
            return CANNOT;
        }
        Walk walk = walks[cursorWalk];
        Step step;
        if (place == walk.steps.size()) {
            step = leaving(street, walk.end());
        } else if (place == 0) {
            step = coming(street, walk.begin);
        } else {
            boolean isLoopThere = street.from == walk.corner(place) && street.to == walk.corner(place);
            step = isLoopThere ? new Step(street, false) : null;
        }
        if (step == null) {
            return CANNOT;
        }
        if (place == 0) {
            walk.begin = step.source();
        }
        walk.steps.add(place, step);
        told = -1;
        return (long) ++place;
    }

    private Object cursorRemove() {
        if (!hasCursor() || told < 0) {
            return CANNOT;
        }
        Walk walk = walks[cursorWalk];
        Step step = walk.steps.get(told);
        boolean isLast = told == walk.steps.size() - 1;
        if (step.source() != step.goal() && told != 0 && !isLast) {
            return CANNOT;
        }
        if (told == 0 && !isLast) {
            walk.begin = step.goal();
        }
        long gone = number(step);
        walk.steps.remove(told);
        place -= told < place ? 1 : 0;
        told = -1;
        return gone;
    }
}
