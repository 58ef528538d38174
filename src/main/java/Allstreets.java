/** A town of streets, three walks that take each street at most once, and a cursor on one of them. */
public final class Allstreets {
    private static final int CORNERS = 10;
    private static final int MOST_STREETS = 30;
    private static final int WALKS = 3;
    private static final int MOST_WHAT = 2;
    private static final int CANNOT = -9;
    private static final int NO_PLACE = -2;
    private static final int NONE = -1;

    private final Town town;
    private final Walk[] walks;
    // Kept for the whole life of the object, so that no call has to make a walk of its own.
    private final Walk trial;
    private final Cursor pointer;
    private int acts;
    private int refusals;
    private int knocks;

    public Allstreets() {
        town = new Town();
        walks = new Walk[WALKS];
        for (int walk = 0; walk < WALKS; walk++) {
            walks[walk] = new Walk(town);
        }
        trial = new Walk(town);
        pointer = new Cursor(town);
    }

    // ==== acts on the town

    public int lay(int from, int to) throws IndexOutOfBoundsException {
        checkCorner(from);
        checkCorner(to);
        if (!town.hasRoomFor(1)) {
            return counted(CANNOT);
        }
        town.endWords();
        town.addStreet(from, to);
        return counted(town.size() - 1);
    }

    public int layRing(int many, int step) throws IllegalArgumentException {
        checkRange(many, 1, CORNERS);
        checkRange(step, 0, CORNERS - 1);
        if (!town.hasRoomFor(many)) {
            return counted(CANNOT);
        }
        town.endWords();
        town.addRing(many, step);
        return counted(town.size());
    }

    public int words(int signs, int length) throws IllegalArgumentException {
        checkRange(signs, 2, 5);
        checkRange(length, 1, 4);
        if (powerOf(signs, length) > MOST_STREETS) {
            return counted(CANNOT);
        }
        empty();
        town.becomeWords(signs, length);
        return counted(town.size());
    }

    public int close(int street) throws IndexOutOfBoundsException {
        checkStreet(street);
        for (int walk = 0; walk < walks.length; walk++) {
            if (walks[walk].placeOf(street) >= 0) {
                return counted(CANNOT);
            }
        }
        town.endWords();
        town.dropStreet(street);
        for (int walk = 0; walk < walks.length; walk++) {
            walks[walk].renumberBehind(street);
        }
        return counted(town.size());
    }

    public int clear() {
        int gone = town.size();
        empty();
        return counted(gone);
    }

    public int oneWay(boolean isOneWay) {
        if (isOneWay && anyIsBackward()) {
            return counted(CANNOT);
        }
        int answer = town.isOneWay() == isOneWay ? 0 : 1;
        town.setOneWay(isOneWay);
        return counted(answer);
    }

    public int turnTown() {
        // The walks go first: their ends are those of the town as it was.
        for (int walk = 0; walk < walks.length; walk++) {
            walks[walk].turnOrder();
        }
        town.endWords();
        town.swapEnds();
        return counted(town.size());
    }

    // ---- what is asked of the town

    public int streets() {
        return town.size();
    }

    public int end(int street, boolean isTo) throws IndexOutOfBoundsException {
        checkStreet(street);
        return isTo ? town.toOf(street) : town.fromOf(street);
    }

    public int ways(int corner, int what) throws IndexOutOfBoundsException, IllegalArgumentException {
        checkCorner(corner);
        checkRange(what, 0, MOST_WHAT);
        if (what == 1) {
            return town.outOf(corner);
        }
        return what == 2 ? town.inOf(corner) : town.outOf(corner) + town.inOf(corner);
    }

    public int odd() {
        return town.oddCount(town.allStreets());
    }

    public boolean hangs() {
        return town.hangTogether(town.allStreets());
    }

    public int kind() {
        if (hangs() && odd() == 0) {
            return 2;
        }
        return town.leastStart() >= 0 ? 1 : 0;
    }

    public boolean isStart(int corner) throws IndexOutOfBoundsException {
        checkCorner(corner);
        return town.isStartOf(town.allStreets(), corner);
    }

    public int rule(int what) throws IllegalArgumentException {
        checkRange(what, 0, MOST_WHAT);
        if (what == 2) {
            return town.isOneWay() ? 1 : 0;
        }
        return what == 0 ? town.signCount() : town.wordSize();
    }

    // ==== acts on the walks

    public int begin(int walk, int corner) throws IndexOutOfBoundsException {
        Walk changed = walkOf(walk);
        checkCorner(corner);
        int gone = changed.size();
        changed.restart(corner);
        if (gone > 0) {
            pointer.loseOn(changed);
        }
        return counted(gone);
    }

    public int step(int walk, int street, boolean isAhead) throws IndexOutOfBoundsException {
        Walk changed = walkOf(walk);
        checkStreet(street);
        return countedMove(changed, changed.walkStreet(street, isAhead));
    }

    public int back(int walk, boolean isFirst) throws IndexOutOfBoundsException {
        Walk changed = walkOf(walk);
        return countedMove(changed, changed.stepBack(isFirst));
    }

    public int on(int walk, boolean isLeast) throws IndexOutOfBoundsException {
        Walk changed = walkOf(walk);
        return countedGrowth(changed, changed.goOn(changed.size(), isLeast));
    }

    public int complete(int walk, boolean isLeast) throws IndexOutOfBoundsException {
        Walk changed = walkOf(walk);
        if (!town.isStartOf(town.allStreets(), changed.firstCorner())) {
            return counted(CANNOT);
        }
        return countedGrowth(changed, changed.fillUp(isLeast));
    }

    public int splice(int walk, int other, int at) throws IndexOutOfBoundsException {
        Walk into = walkOf(walk);
        Walk round = walkOf(other);
        checkIndex(at, into.size());
        if (!into.canTakeIn(round) || round.firstCorner() != into.cornerOf(at)) {
            return counted(CANNOT);
        }
        into.takeIn(round, at);
        pointer.loseOn(round);
        return countedMove(into, into.size());
    }

    public int join(int walk, int other) throws IndexOutOfBoundsException {
        Walk into = walkOf(walk);
        Walk round = walkOf(other);
        int at = into.canTakeIn(round) ? into.meetingPlace(round) : NONE;
        if (at < 0) {
            return counted(CANNOT);
        }
        round.turnBy(round.placeOfCorner(into.cornerOf(at)));
        into.takeIn(round, at);
        pointer.loseOn(round);
        return countedMove(into, at);
    }

    public int cut(int walk, int from, int to, int other) throws IndexOutOfBoundsException {
        Walk cutFrom = walkOf(walk);
        Walk round = walkOf(other);
        checkIndex(from, cutFrom.size());
        checkIndex(to, cutFrom.size());
        if (cutFrom == round || from >= to || cutFrom.cornerOf(from) != cutFrom.cornerOf(to)) {
            return counted(CANNOT);
        }
        cutFrom.giveOut(from, to, round);
        pointer.loseOn(round);
        return countedMove(cutFrom, to - from);
    }

    public int turnRound(int walk) throws IndexOutOfBoundsException {
        Walk changed = walkOf(walk);
        if (town.isOneWay()) {
            return counted(CANNOT);
        }
        changed.turnOrder();
        changed.turnSteps();
        return counted(changed.firstCorner());
    }

    public int rotate(int walk, int by) throws IndexOutOfBoundsException, IllegalArgumentException {
        Walk changed = walkOf(walk);
        checkRange(by, 0, MOST_STREETS);
        if (!changed.isHome()) {
            return counted(CANNOT);
        }
        changed.turnBy(by);
        if (by > 0 && changed.size() > 0) {
            pointer.loseOn(changed);
        }
        return counted(changed.firstCorner());
    }

    public int first(int walk, int corner, boolean isLeast) throws IndexOutOfBoundsException {
        Walk changed = walkOf(walk);
        checkCorner(corner);
        if (!town.isStartOf(town.allStreets(), corner)) {
            return counted(CANNOT);
        }
        int gone = changed.size();
        changed.restart(corner);
        changed.fillInOrder(isLeast);
        if (gone > 0 || changed.size() > 0) {
            pointer.loseOn(changed);
        }
        return counted(changed.size());
    }

    public int next(int walk, boolean isUp) throws IndexOutOfBoundsException {
        Walk changed = walkOf(walk);
        if (!changed.isWhole()) {
            return counted(CANNOT);
        }
        trial.takeAllOf(changed);
        int place = trial.becomeNeighbour(isUp);
        if (place < 0) {
            return counted(CANNOT);
        }
        changed.takeAllOf(trial);
        return countedMove(changed, place);
    }

    public int copy(int walk, int into) throws IndexOutOfBoundsException {
        Walk pattern = walkOf(walk);
        Walk changed = walkOf(into);
        if (pattern == changed) {
            return counted(CANNOT);
        }
        if (pattern.size() > 0 || changed.size() > 0) {
            pointer.loseOn(changed);
        }
        changed.takeAllOf(pattern);
        return counted(changed.size());
    }

    // ---- what is asked of the walks

    public int length(int walk) throws IndexOutOfBoundsException {
        return walkOf(walk).size();
    }

    public int cornerAt(int walk, int at) throws IndexOutOfBoundsException {
        Walk asked = walkOf(walk);
        checkIndex(at, asked.size());
        return asked.cornerOf(at);
    }

    public int stepAt(int walk, int at) throws IndexOutOfBoundsException {
        Walk asked = walkOf(walk);
        checkIndex(at, asked.size() - 1);
        return asked.stepOf(at);
    }

    public int find(int walk, int street) throws IndexOutOfBoundsException {
        Walk asked = walkOf(walk);
        checkStreet(street);
        return asked.placeOf(street);
    }

    public boolean is(int walk, boolean isWhole) throws IndexOutOfBoundsException {
        Walk asked = walkOf(walk);
        return isWhole ? asked.isWhole() : asked.isHome();
    }

    public boolean same(int walk, int other) throws IndexOutOfBoundsException {
        Walk one = walkOf(walk);
        Walk two = walkOf(other);
        return one.isSameTurned(two, 0);
    }

    public int turnOf(int walk, int other) throws IndexOutOfBoundsException {
        Walk one = walkOf(walk);
        Walk two = walkOf(other);
        return one.turnTo(two);
    }

    public String text(int walk, int what) throws IndexOutOfBoundsException, IllegalArgumentException {
        Walk asked = walkOf(walk);
        checkRange(what, 0, MOST_WHAT);
        if (what == 2 && !town.isOfWords()) {
            return "";
        }
        int many = what == 0 ? asked.size() + 1 : asked.size();
        StringBuilder text = new StringBuilder();
        for (int at = 0; at < many; at++) {
            if (at > 0) {
                text.append('-');
            }
            text.append(numberAt(asked, at, what));
        }
        return text.toString();
    }

    public int wordAt(int walk, int word, int from) throws IndexOutOfBoundsException, IllegalArgumentException {
        Walk asked = walkOf(walk);
        checkRange(word, 0, MOST_STREETS - 1);
        checkRange(from, 0, MOST_STREETS - 1);
        return asked.placeOfWord(word, from);
    }

    // ==== acts of the cursor

    public int cursor(int walk, int at) throws IndexOutOfBoundsException {
        Walk looked = walkOf(walk);
        checkIndex(at, looked.size());
        pointer.standOn(looked, at);
        return counted(looked.cornerOf(at));
    }

    public int cursorGo(boolean isOn) {
        return counted(pointer.tell(isOn));
    }

    public int cursorSet(int street) throws IndexOutOfBoundsException {
        checkStreet(street);
        return counted(pointer.exchangeTold(street));
    }

    public int cursorAdd(int street) throws IndexOutOfBoundsException {
        checkStreet(street);
        return counted(pointer.letIn(street));
    }

    public int cursorRemove() {
        return counted(pointer.removeTold());
    }

    // ---- what is asked of the cursor

    public boolean cursorCan(boolean isOn) {
        return pointer.hasStep(isOn);
    }

    public int cursorPlace(boolean isOn) {
        return pointer.placeAsked(isOn);
    }

    // ==== the whole

    public int house(int what) throws IllegalArgumentException {
        checkRange(what, 0, MOST_WHAT);
        if (what == 0) {
            return acts;
        }
        return what == 1 ? refusals : knocks;
    }

    public int knock() {
        knocks++;
        return knocks;
    }

    public boolean isSound() {
        for (int walk = 0; walk < walks.length; walk++) {
            if (!walks[walk].isTrueWalk()) {
                return false;
            }
        }
        int kind = kind();
        int start = town.leastStart();
        if (!town.waysAddUp() || kind > 0 != start >= 0) {
            return false;
        }
        if (start < 0) {
            return true;
        }
        trial.restart(start);
        trial.fillUp(true);
        return trial.isWhole() && trial.isHome() == (kind == 2) && hasEachWordOnce(trial);
    }

    public long digest() {
        long sum = digestOfTown(7692);
        for (int walk = 0; walk < walks.length; walk++) {
            sum = digestOfWalk(sum, walk);
        }
        sum = mixed(sum, cursorPlace(true));
        sum = mixed(sum, cursorPlace(false));
        sum = mixed(sum, numberOf(cursorCan(true)));
        sum = mixed(sum, numberOf(cursorCan(false)));
        sum = mixed(sum, acts);
        sum = mixed(sum, refusals);
        sum = mixed(sum, knocks);
        return mixed(sum, numberOf(isSound()));
    }

    // Every act ends here or in one of the two below, so that each is counted just once.
    private int counted(int answer) {
        if (answer == CANNOT) {
            refusals++;
        } else {
            acts++;
        }
        return answer;
    }

    private int countedMove(Walk changed, int answer) {
        if (answer != CANNOT) {
            pointer.loseOn(changed);
        }
        return counted(answer);
    }

    private int countedGrowth(Walk changed, int came) {
        if (came > 0) {
            pointer.loseOn(changed);
        }
        return counted(came);
    }

    private void empty() {
        town.dropAll();
        for (int walk = 0; walk < walks.length; walk++) {
            walks[walk].restart(0);
        }
        pointer.vanish();
    }

    private boolean anyIsBackward() {
        for (int walk = 0; walk < walks.length; walk++) {
            if (walks[walk].hasBackward()) {
                return true;
            }
        }
        return false;
    }

    private Walk walkOf(int walk) {
        if (walk < 0 || walk >= walks.length) {
            throw new IndexOutOfBoundsException("no such walk");
        }
        return walks[walk];
    }

    private void checkCorner(int corner) {
        if (!Town.isCorner(corner)) {
            throw new IndexOutOfBoundsException("no such corner");
        }
    }

    private void checkStreet(int street) {
        if (street < 0 || street >= town.size()) {
            throw new IndexOutOfBoundsException("no such street");
        }
    }

    private static void checkIndex(int at, int most) {
        if (at < 0 || at > most) {
            throw new IndexOutOfBoundsException("no such place");
        }
    }

    private static void checkRange(int number, int least, int most) {
        if (number < least || number > most) {
            throw new IllegalArgumentException("a number out of its range");
        }
    }

    private int numberAt(Walk asked, int at, int what) {
        if (what == 0) {
            return asked.cornerOf(at);
        }
        int street = asked.stepOf(at) >> 1;
        return what == 1 ? street : town.signOf(street);
    }

    // A walk that goes BACKWARD somewhere need not read as words: so FREE towns are let pass.
    private boolean hasEachWordOnce(Walk whole) {
        if (!town.isOfWords() || !town.isOneWay()) {
            return true;
        }
        for (int word = 0; word < town.size(); word++) {
            int place = whole.placeOfWord(word, 0);
            if (place < 0 || whole.placeOfWord(word, place + 1) >= 0) {
                return false;
            }
        }
        return true;
    }

    private long digestOfTown(long seed) {
        long sum = mixed(seed, town.size());
        for (int street = 0; street < town.size(); street++) {
            sum = mixed(sum, town.fromOf(street));
            sum = mixed(sum, town.toOf(street));
        }
        for (int corner = 0; corner < CORNERS; corner++) {
            sum = mixed(sum, town.outOf(corner) + town.inOf(corner));
            sum = mixed(sum, town.outOf(corner));
            sum = mixed(sum, numberOf(town.isStartOf(town.allStreets(), corner)));
        }
        sum = mixed(sum, odd());
        sum = mixed(sum, numberOf(hangs()));
        sum = mixed(sum, kind());
        sum = mixed(sum, town.signCount());
        sum = mixed(sum, town.wordSize());
        return mixed(sum, numberOf(town.isOneWay()));
    }

    private long digestOfWalk(long seed, int walk) {
        Walk asked = walkOf(walk);
        Walk following = walkOf(walk + 1 < WALKS ? walk + 1 : 0);
        long sum = mixed(seed, asked.size());
        sum = mixed(sum, asked.firstCorner());
        sum = mixed(sum, asked.lastCorner());
        for (int at = 0; at < asked.size(); at++) {
            sum = mixed(sum, asked.stepOf(at));
        }
        sum = mixed(sum, numberOf(asked.isWhole()));
        return mixed(sum, asked.turnTo(following));
    }

    private static long mixed(long sum, long value) {
        return sum * 31 + value;
    }

    private static int numberOf(boolean isSo) {
        return isSo ? 1 : 0;
    }

    private static int powerOf(int base, int exponent) {
        int power = 1;
        for (int i = 0; i < exponent; i++) {
            power *= base;
        }
        return power;
    }

    /**
     * The streets. A set of streets is an int with the bit of each street's number. Each FROM and TO in the rows is
     * a corner, as addStreet() lets no other in: so they need no test where they are an index.
     */
    private static final class Town {
        private final int[] froms;
        private final int[] tos;
        // What countWays() found last: rows that are used again, no part of the state.
        private final int[] outs;
        private final int[] ins;
        private int count;
        private boolean oneWayOnly;
        private int signs;
        private int wordLength;

        Town() {
            froms = new int[MOST_STREETS];
            tos = new int[MOST_STREETS];
            outs = new int[CORNERS];
            ins = new int[CORNERS];
        }

        static boolean isCorner(int number) {
            return number >= 0 && number < CORNERS;
        }

        int size() {
            return count;
        }

        boolean hasRoomFor(int many) {
            return count + many <= MOST_STREETS;
        }

        boolean isOneWay() {
            return oneWayOnly;
        }

        void setOneWay(boolean isOneWay) {
            oneWayOnly = isOneWay;
        }

        boolean isOfWords() {
            return signs > 0;
        }

        int signCount() {
            return signs;
        }

        int wordSize() {
            return wordLength;
        }

        int signOf(int street) {
            return signs > 0 ? street % signs : 0;
        }

        void addStreet(int from, int to) {
            if (count >= MOST_STREETS || !isCorner(from) || !isCorner(to)) {
                return;
            }
            froms[count] = from;
            tos[count] = to;
            count++;
        }

        void addRing(int many, int by) {
            for (int corner = 0; corner < many; corner++) {
                addStreet(corner, (corner + by) % many);
            }
        }

        void becomeWords(int signsThen, int lengthThen) {
            int heads = powerOf(signsThen, lengthThen - 1);
            if (signsThen < 1 || heads < 1) {
                return;
            }
            signs = signsThen;
            wordLength = lengthThen;
            oneWayOnly = true;
            for (int word = 0; word < heads * signsThen; word++) {
                addStreet(word / signsThen, word % heads);
            }
        }

        void endWords() {
            signs = 0;
            wordLength = 0;
        }

        void dropStreet(int street) {
            if (street < 0 || street >= count) {
                return;
            }
            for (int at = street; at + 1 < count; at++) {
                froms[at] = froms[at + 1];
                tos[at] = tos[at + 1];
            }
            count--;
        }

        void dropAll() {
            count = 0;
            oneWayOnly = false;
            endWords();
        }

        void swapEnds() {
            for (int street = 0; street < count; street++) {
                int from = froms[street];
                froms[street] = tos[street];
                tos[street] = from;
            }
        }

        int fromOf(int street) {
            return street >= 0 && street < count ? froms[street] : NONE;
        }

        int toOf(int street) {
            return street >= 0 && street < count ? tos[street] : NONE;
        }

        boolean isLoop(int street) {
            return fromOf(street) == toOf(street);
        }

        int goalOf(int step) {
            int street = step >> 1;
            return (step & 1) == 0 ? toOf(street) : fromOf(street);
        }

        int sourceOf(int step) {
            return goalOf(step ^ 1);
        }

        /** The step by which the street leaves the corner, or NONE. */
        int leaving(int street, int corner) {
            if (fromOf(street) == corner) {
                return 2 * street;
            }
            return !oneWayOnly && toOf(street) == corner ? 2 * street + 1 : NONE;
        }

        /** The step by which the street comes to the corner, or NONE. */
        int comingTo(int street, int corner) {
            if (toOf(street) == corner) {
                return 2 * street;
            }
            return !oneWayOnly && fromOf(street) == corner ? 2 * street + 1 : NONE;
        }

        /** The step by which the street goes from one corner to another, or NONE. */
        int between(int street, int source, int goal) {
            int step = leaving(street, source);
            return step >= 0 && goalOf(step) == goal ? step : NONE;
        }

        int allStreets() {
            return (1 << count) - 1;
        }

        int outOf(int corner) {
            countWays(allStreets());
            return isCorner(corner) ? outs[corner] : 0;
        }

        int inOf(int corner) {
            countWays(allStreets());
            return isCorner(corner) ? ins[corner] : 0;
        }

        int oddCount(int among) {
            countWays(among);
            int many = 0;
            for (int corner = 0; corner < CORNERS; corner++) {
                if (isOddAsCounted(corner)) {
                    many++;
                }
            }
            return many;
        }

        boolean hangTogether(int among) {
            int reached = 0;
            boolean hasGrown = true;
            for (int pass = 0; pass <= CORNERS && hasGrown; pass++) {
                int before = reached;
                reached = reachedInOnePass(among, before);
                hasGrown = reached != before;
            }
            for (int street = 0; street < count; street++) {
                if (isIn(among, street) && (reached & 1 << froms[street]) == 0) {
                    return false;
                }
            }
            return true;
        }

        /** Whether a walk from the corner can take all these streets: for all of them, whether it is a START. */
        boolean isStartOf(int among, int corner) {
            if (among == 0) {
                return true;
            }
            if (!isCorner(corner) || !hangTogether(among)) {
                return false;
            }
            int odd = oddCount(among);
            if (odd == 0) {
                return outs[corner] + ins[corner] > 0;
            }
            if (odd != 2 || !isOddAsCounted(corner)) {
                return false;
            }
            return !oneWayOnly || outs[corner] == ins[corner] + 1;
        }

        int leastStart() {
            for (int corner = 0; corner < CORNERS; corner++) {
                if (isStartOf(allStreets(), corner)) {
                    return corner;
                }
            }
            return NONE;
        }

        boolean waysAddUp() {
            int odd = oddCount(allStreets());
            int outSum = 0;
            int inSum = 0;
            for (int corner = 0; corner < CORNERS; corner++) {
                outSum += outs[corner];
                inSum += ins[corner];
            }
            return outSum == count && inSum == count && (oneWayOnly || odd % 2 == 0);
        }

        /** The least step (or greatest) of these streets that leaves the corner, or NONE. */
        int stepOn(int among, int corner, boolean isLeast) {
            int by = isLeast ? 1 : -1;
            for (int street = isLeast ? 0 : count - 1; street >= 0 && street < count; street += by) {
                int step = isIn(among, street) ? leaving(street, corner) : NONE;
                if (step >= 0) {
                    return step;
                }
            }
            return NONE;
        }

        /** As stepOn(), but only beyond a street, and so that the others of these can still all be walked. */
        int stepToWhole(int among, int corner, int beyond, boolean isLeast) {
            int by = isLeast ? 1 : -1;
            for (int street = beyond + by; street >= 0 && street < count; street += by) {
                int step = isIn(among, street) ? leaving(street, corner) : NONE;
                if (step >= 0 && isStartOf(among & ~(1 << street), goalOf(step))) {
                    return step;
                }
            }
            return NONE;
        }

        private int reachedInOnePass(int among, int before) {
            int reached = before;
            for (int street = 0; street < count; street++) {
                int ends = 1 << froms[street] | 1 << tos[street];
                int asked = among >> street & 1;
                if (asked != 0 && (reached == 0 || (reached & ends) != 0)) {
                    reached |= ends;
                }
            }
            return reached;
        }

        private void countWays(int among) {
            for (int corner = 0; corner < CORNERS; corner++) {
                outs[corner] = 0;
                ins[corner] = 0;
            }
            for (int street = 0; street < count; street++) {
                int asked = among >> street & 1;
                outs[froms[street]] += asked;
                ins[tos[street]] += asked;
            }
        }

        private boolean isOddAsCounted(int corner) {
            if (!isCorner(corner)) {
                return false;
            }
            return oneWayOnly ? outs[corner] != ins[corner] : (outs[corner] + ins[corner]) % 2 != 0;
        }

        private static boolean isIn(int among, int street) {
            return (among >> street & 1) != 0;
        }
    }

    /** A corner, and the steps that are walked from it. */
    private static final class Walk {
        private final Town town;
        private final int[] steps;
        private int count;
        private int start;

        Walk(Town town) {
            this.town = town;
            steps = new int[MOST_STREETS];
        }

        int size() {
            return count;
        }

        int firstCorner() {
            return start;
        }

        int lastCorner() {
            return cornerOf(count);
        }

        int cornerOf(int place) {
            return place > 0 && place <= count ? town.goalOf(steps[place - 1]) : start;
        }

        int stepOf(int place) {
            return place >= 0 && place < count ? steps[place] : NONE;
        }

        int placeOf(int street) {
            for (int place = 0; place < count; place++) {
                if (steps[place] >> 1 == street) {
                    return place;
                }
            }
            return NONE;
        }

        int placeOfCorner(int corner) {
            for (int place = 0; place <= count; place++) {
                if (cornerOf(place) == corner) {
                    return place;
                }
            }
            return NONE;
        }

        boolean isHome() {
            return cornerOf(count) == start;
        }

        boolean isWhole() {
            return count == town.size();
        }

        boolean hasBackward() {
            for (int place = 0; place < count; place++) {
                if ((steps[place] & 1) != 0) {
                    return true;
                }
            }
            return false;
        }

        void restart(int corner) {
            count = 0;
            start = corner;
        }

        void renumberBehind(int street) {
            for (int place = 0; place < count; place++) {
                if (steps[place] >> 1 > street) {
                    steps[place] -= 2;
                }
            }
        }

        void putIn(int place, int step) {
            if (place < 0 || place > count || count >= MOST_STREETS) {
                return;
            }
            for (int at = count; at > place; at--) {
                steps[at] = steps[at - 1];
            }
            steps[place] = step;
            count++;
        }

        /** The step is one that comes to the corner where the walk begins. */
        void putAhead(int step) {
            putIn(0, step);
            start = town.sourceOf(step);
        }

        void takeOut(int place) {
            if (place < 0 || place >= count) {
                return;
            }
            for (int at = place; at + 1 < count; at++) {
                steps[at] = steps[at + 1];
            }
            count--;
        }

        void takeOutFirst() {
            start = cornerOf(1);
            takeOut(0);
        }

        void exchange(int place, int step) {
            if (place >= 0 && place < count) {
                steps[place] = step;
            }
        }

        int walkStreet(int street, boolean isAhead) {
            int step = isAhead ? town.comingTo(street, start) : town.leaving(street, lastCorner());
            if (step < 0 || placeOf(street) >= 0) {
                return CANNOT;
            }
            if (isAhead) {
                putAhead(step);
                return start;
            }
            putIn(count, step);
            return lastCorner();
        }

        int stepBack(boolean isFirst) {
            if (count == 0) {
                return CANNOT;
            }
            int gone = stepOf(isFirst ? 0 : count - 1);
            if (isFirst) {
                takeOutFirst();
            } else {
                count--;
            }
            return gone;
        }

        /** Goes on from the corner at a place; what is walked comes in there. Tells how many steps came. */
        int goOn(int place, boolean isLeast) {
            int corner = cornerOf(place);
            int left = notWalked();
            int came = 0;
            for (int tries = 0; tries < MOST_STREETS; tries++) {
                int step = town.stepOn(left, corner, isLeast);
                if (step < 0) {
                    return came;
                }
                putIn(place + came, step);
                came++;
                left &= ~(1 << (step >> 1));
                corner = town.goalOf(step);
            }
            return came;
        }

        /** Needs a START to begin at. Tells how many steps came. */
        int fillUp(boolean isLeast) {
            int came = goOn(count, isLeast);
            for (int place = 0; place <= count && place <= MOST_STREETS; place++) {
                came += goOn(place, isLeast);
            }
            return came;
        }

        boolean canTakeIn(Walk round) {
            if (round == this || round.count == 0 || !round.isHome()) {
                return false;
            }
            return (notWalked() | round.notWalked()) == town.allStreets();
        }

        void takeIn(Walk round, int at) {
            int many = round.count;
            for (int i = 0; i < many; i++) {
                putIn(at + i, round.stepOf(i));
            }
            round.count = 0;
        }

        int meetingPlace(Walk round) {
            for (int place = 0; place <= count; place++) {
                if (round.placeOfCorner(cornerOf(place)) >= 0) {
                    return place;
                }
            }
            return NONE;
        }

        void giveOut(int from, int to, Walk round) {
            round.restart(cornerOf(from));
            for (int at = from; at < to; at++) {
                round.putIn(round.count, stepOf(from));
                takeOut(from);
            }
        }

        void turnOrder() {
            start = lastCorner();
            for (int low = 0, high = count - 1; low < high; low++, high--) {
                int step = steps[low];
                steps[low] = steps[high];
                steps[high] = step;
            }
        }

        void turnSteps() {
            for (int place = 0; place < count; place++) {
                if (!town.isLoop(steps[place] >> 1)) {
                    steps[place] ^= 1;
                }
            }
        }

        void turnBy(int by) {
            if (count == 0) {
                return;
            }
            int times = by % count;
            for (int i = 0; i < times; i++) {
                int step = stepOf(0);
                takeOutFirst();
                putIn(count, step);
            }
        }

        void takeAllOf(Walk pattern) {
            int many = pattern.count;
            restart(pattern.start);
            for (int place = 0; place < many; place++) {
                putIn(place, pattern.steps[place]);
            }
        }

        /** Walks all that is left, as the least (or greatest) in ORDER does. */
        void fillInOrder(boolean isLeast) {
            int beyond = isLeast ? NONE : town.size();
            for (int place = count; place < town.size(); place++) {
                int step = town.stepToWhole(notWalked(), lastCorner(), beyond, isLeast);
                if (step < 0) {
                    return;
                }
                putIn(count, step);
            }
        }

        /** Becomes the next one in ORDER, or that before it. Tells from which place on it is another, or NONE. */
        int becomeNeighbour(boolean isUp) {
            for (int place = count - 1; place >= 0; place--) {
                int old = stepBack(false);
                int step = town.stepToWhole(notWalked(), lastCorner(), old >> 1, isUp);
                if (step >= 0) {
                    putIn(place, step);
                    fillInOrder(isUp);
                    return place;
                }
            }
            return NONE;
        }

        boolean isSameTurned(Walk other, int by) {
            if (count != other.count || cornerOf(by) != other.start) {
                return false;
            }
            for (int place = 0; place < count; place++) {
                if (steps[(place + by) % count] != other.steps[place]) {
                    return false;
                }
            }
            return true;
        }

        int turnTo(Walk other) {
            if (isSameTurned(other, 0)) {
                return 0;
            }
            if (!isHome()) {
                return NONE;
            }
            for (int by = 1; by < count; by++) {
                if (isSameTurned(other, by)) {
                    return by;
                }
            }
            return NONE;
        }

        int placeOfWord(int word, int from) {
            if (!town.isOfWords() || word < 0 || word >= town.size() || from < 0) {
                return NONE;
            }
            for (int place = from; place < count; place++) {
                if (hasWord(word, place)) {
                    return place;
                }
            }
            return NONE;
        }

        boolean isTrueWalk() {
            int corner = start;
            int seen = 0;
            for (int place = 0; place < count; place++) {
                int street = steps[place] >> 1;
                if ((seen >> street & 1) != 0 || town.leaving(street, corner) != steps[place]) {
                    return false;
                }
                seen |= 1 << street;
                corner = town.goalOf(steps[place]);
            }
            return leadsBack();
        }

        private boolean leadsBack() {
            int corner = cornerOf(count);
            for (int place = count - 1; place >= 0; place--) {
                if (town.goalOf(steps[place]) != corner) {
                    return false;
                }
                corner = town.sourceOf(steps[place]);
            }
            return corner == start;
        }

        private boolean hasWord(int word, int place) {
            int signs = town.signCount();
            if (signs <= 0 || count <= 0) {
                return false;
            }
            int rest = word;
            for (int i = town.wordSize() - 1; i >= 0; i--) {
                if (town.signOf(steps[(place + i) % count] >> 1) != rest % signs) {
                    return false;
                }
                rest /= signs;
            }
            return true;
        }

        private int notWalked() {
            int left = town.allStreets();
            for (int place = 0; place < count; place++) {
                left &= ~(1 << (steps[place] >> 1));
            }
            return left;
        }
    }

    /** A place on a walk, or none; the TOLD step is kept by its place. */
    private static final class Cursor {
        private final Town town;
        private Walk walk;
        private int place;
        private int told;
        private boolean isLost;

        Cursor(Town town) {
            this.town = town;
            told = NONE;
        }

        void standOn(Walk looked, int at) {
            walk = looked;
            place = at;
            told = NONE;
            isLost = false;
        }

        void vanish() {
            walk = null;
        }

        void loseOn(Walk changed) {
            if (walk == changed) {
                isLost = true;
            }
        }

        int tell(boolean isOn) {
            if (!hasStep(isOn)) {
                return CANNOT;
            }
            told = placeAsked(isOn);
            place = isOn ? place + 1 : place - 1;
            return walk == null ? CANNOT : walk.stepOf(told);
        }

        int exchangeTold(int street) {
            if (walk == null || isLost || told < 0) {
                return CANNOT;
            }
            int old = walk.stepOf(told);
            int at = walk.placeOf(street);
            int step = town.between(street, town.sourceOf(old), town.goalOf(old));
            if (step < 0 || at >= 0 && at != told) {
                return CANNOT;
            }
            walk.exchange(told, step);
            return old;
        }

        int letIn(int street) {
            if (walk == null || isLost || walk.placeOf(street) >= 0) {
                return CANNOT;
            }
            int corner = walk.cornerOf(place);
            boolean isLast = place == walk.size();
            boolean isAhead = place == 0 && !isLast;
            int step;
            if (isLast) {
                step = town.leaving(street, corner);
            } else {
                step = isAhead ? town.comingTo(street, corner) : town.between(street, corner, corner);
            }
            if (step < 0) {
                return CANNOT;
            }
            if (isAhead) {
                walk.putAhead(step);
            } else {
                walk.putIn(place, step);
            }
            place++;
            told = NONE;
            return place;
        }

        int removeTold() {
            if (walk == null || isLost || told < 0) {
                return CANNOT;
            }
            int step = walk.stepOf(told);
            boolean isLast = told == walk.size() - 1;
            if (told > 0 && !isLast && !town.isLoop(step >> 1)) {
                return CANNOT;
            }
            if (told == 0 && !isLast) {
                walk.takeOutFirst();
            } else {
                walk.takeOut(told);
            }
            if (told < place) {
                place--;
            }
            told = NONE;
            return step;
        }

        boolean hasStep(boolean isOn) {
            if (walk == null || isLost) {
                return false;
            }
            int asked = isOn ? place : place - 1;
            return asked >= 0 && asked < walk.size();
        }

        int placeAsked(boolean isOn) {
            if (walk == null || isLost) {
                return NO_PLACE;
            }
            return isOn ? place : place - 1;
        }
    }
}
