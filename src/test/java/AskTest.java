/** Promises 30 to 38: what is asked of the walks. */
public final class AskTest {
    private static final Check CHECK = new Check();

    public static void main(String[] args) {
        placesAndSteps();
        find();
        isWholeOrHome();
        same();
        turnOf();
        turnOfWalksNotHome();
        text();
        wordAt();
        wordAtOnShortWalks();
        askingChangesNothing();
        wrongWalks();
        CHECK.end();
    }

    private static void placesAndSteps() {
        Allstreets x = Face.townOf(4, 5, 6, 5, 6, 6);
        CHECK.due("length(2)", x.length(2), 0);
        CHECK.due("cornerAt(2, 0)", x.cornerAt(2, 0), 0);
        CHECK.throwsIndex(x, "stepAt(2, 0) of none", () -> x.stepAt(2, 0));
        CHECK.throwsIndex(x, "cornerAt(2, 1) of none", () -> x.cornerAt(2, 1));
        Face.walk(x, 2, 4, 0, 1, 2);
        CHECK.due("length(2)", x.length(2), 3);
        int[] corners = {4, 5, 6, 6};
        for (int at = 0; at <= 3; at++) {
            CHECK.due("cornerAt(2, " + at + ")", x.cornerAt(2, at), corners[at]);
        }
        int[] steps = {0, 3, 4};
        for (int at = 0; at < 3; at++) {
            CHECK.due("stepAt(2, " + at + ")", x.stepAt(2, at), steps[at]);
        }
        CHECK.throwsIndex(x, "cornerAt(2, 4)", () -> x.cornerAt(2, 4));
        CHECK.throwsIndex(x, "cornerAt(2, -1)", () -> x.cornerAt(2, -1));
        CHECK.throwsIndex(x, "cornerAt(3, 0)", () -> x.cornerAt(3, 0));
        CHECK.throwsIndex(x, "stepAt(2, 3)", () -> x.stepAt(2, 3));
        CHECK.throwsIndex(x, "stepAt(2, -1)", () -> x.stepAt(2, -1));
        CHECK.throwsIndex(x, "stepAt(-1, 0)", () -> x.stepAt(-1, 0));
    }

    private static void find() {
        Allstreets x = Face.townOf(0, 1, 2, 1, 2, 2);
        Face.walk(x, 1, 0, 0, 1);
        CHECK.due("find(1, 0)", x.find(1, 0), 0);
        CHECK.due("find(1, 1) walked backward", x.find(1, 1), 1);
        CHECK.due("find(1, 2)", x.find(1, 2), -1);
        CHECK.due("find(0, 0)", x.find(0, 0), -1);
        CHECK.throwsIndex(x, "find(1, 3)", () -> x.find(1, 3));
        CHECK.throwsIndex(x, "find(1, -1)", () -> x.find(1, -1));
        CHECK.throwsIndex(x, "find(3, 0)", () -> x.find(3, 0));
        CHECK.throwsIndex(x, "find(-1, 0)", () -> x.find(-1, 0));
    }

    private static void isWholeOrHome() {
        Allstreets x = new Allstreets();
        CHECK.due("whole without streets", x.is(0, true), true);
        CHECK.due("home without steps", x.is(0, false), true);
        x.lay(0, 1);
        x.lay(0, 1);
        CHECK.due("whole with none of two", x.is(0, true), false);
        Face.walk(x, 0, 0, 0);
        CHECK.due("whole with one of two", x.is(0, true), false);
        CHECK.due("home at the other end", x.is(0, false), false);
        Face.walk(x, 0, 0, 0, 1);
        CHECK.due("whole with both", x.is(0, true), true);
        CHECK.due("home again", x.is(0, false), true);
        x.lay(0, 0);
        CHECK.due("no more whole with another street", x.is(0, true), false);
    }

    private static void same() {
        Allstreets x = Face.townOf(0, 1, 0, 1, 1, 2);
        CHECK.due("same(0, 1) new", x.same(0, 1), true);
        x.begin(1, 5);
        CHECK.due("same with another begin", x.same(0, 1), false);
        Face.walk(x, 0, 0, 0, 1);
        Face.walk(x, 1, 0, 0, 1);
        CHECK.due("same steps", x.same(0, 1), true);
        CHECK.due("same as itself", x.same(0, 0), true);
        Face.walk(x, 1, 0, 1, 0);
        CHECK.due("same in another order", x.same(0, 1), false);
        Face.walk(x, 1, 0, 0);
        CHECK.due("same as its first part", x.same(0, 1), false);
        CHECK.due("same as its first part, the other way", x.same(1, 0), false);
        Face.walk(x, 2, 1, 0);
        CHECK.due("same street the other way", x.same(2, 1), false);
        CHECK.throwsIndex(x, "same(3, 0)", () -> x.same(3, 0) ? 1 : 0);
        CHECK.throwsIndex(x, "same(0, -1)", () -> x.same(0, -1) ? 1 : 0);
    }

    private static void turnOf() {
        Allstreets x = Face.townOf(0, 1, 1, 2, 2, 0, 0, 0);
        Face.walk(x, 0, 0, 0, 1, 2, 3);
        for (int by = 0; by < 4; by++) {
            x.copy(0, 1);
            x.rotate(1, by);
            CHECK.due("turnOf(0, 1) by " + by, x.turnOf(0, 1), by);
            CHECK.due("turnOf(1, 0) by " + by, x.turnOf(1, 0), (4 - by) % 4);
        }
        Face.walk(x, 1, 0, 3, 0, 1, 2);
        CHECK.due("turned by 3", x.turnOf(0, 1), 3);
        Face.walk(x, 1, 0, 2, 1, 0, 3);
        CHECK.due("the other way round", x.turnOf(0, 1), -1);
        Face.walk(x, 1, 0, 0, 1, 2);
        CHECK.due("with a step less", x.turnOf(0, 1), -1);
        CHECK.due("itself", x.turnOf(0, 0), 0);
        CHECK.throwsIndex(x, "turnOf(3, 0)", () -> x.turnOf(3, 0));
        CHECK.throwsIndex(x, "turnOf(0, 3)", () -> x.turnOf(0, 3));
        CHECK.throwsIndex(x, "turnOf(-1, 0)", () -> x.turnOf(-1, 0));
        CHECK.throwsIndex(x, "turnOf(0, -1)", () -> x.turnOf(0, -1));
    }

    private static void turnOfWalksNotHome() {
        Allstreets x = Face.townOf(0, 1, 1, 2, 1, 0);
        Face.walk(x, 0, 0, 0, 1);
        x.copy(0, 1);
        CHECK.due("the same, not home", x.turnOf(0, 1), 0);
        Face.walk(x, 1, 0, 2, 1);
        CHECK.due("not the same, not home", x.turnOf(0, 1), -1);
        x.begin(0, 0);
        x.begin(1, 1);
        CHECK.due("without steps, other begins", x.turnOf(0, 1), -1);
        x.begin(1, 0);
        CHECK.due("without steps, one begin", x.turnOf(0, 1), 0);
        // Loops at one corner: each order of them is home, but just its turns are alike.
        Allstreets loops = Face.townOf(3, 3, 3, 3, 3, 3);
        Face.walk(loops, 0, 3, 0, 1, 2);
        Face.walk(loops, 1, 3, 2, 0, 1);
        Face.walk(loops, 2, 3, 1, 0, 2);
        CHECK.due("loops turned by 2", loops.turnOf(0, 1), 2);
        CHECK.due("loops in another order", loops.turnOf(0, 2), -1);
    }

    private static void text() {
        Allstreets x = Face.townOf(9, 8, 7, 8);
        CHECK.due("text(0, 0) without steps", x.text(0, 0), "0");
        CHECK.due("text(0, 1) without steps", x.text(0, 1), "");
        CHECK.due("text(0, 2) without steps", x.text(0, 2), "");
        Face.walk(x, 0, 9, 0, 1);
        CHECK.due("text(0, 0)", x.text(0, 0), "9-8-7");
        CHECK.due("text(0, 1)", x.text(0, 1), "0-1");
        CHECK.due("text(0, 2) without words", x.text(0, 2), "");
        CHECK.throwsArgument(x, "text(0, 3)", () -> x.text(0, 3).length());
        CHECK.throwsArgument(x, "text(0, -1)", () -> x.text(0, -1).length());
        CHECK.throwsIndex(x, "text(3, 3)", () -> x.text(3, 3).length());
        CHECK.throwsIndex(x, "text(-1, 0)", () -> x.text(-1, 0).length());
        x.words(3, 2);
        CHECK.due("text(0, 2) of words without steps", x.text(0, 2), "");
        Face.walk(x, 0, 0, 2, 7, 5);
        CHECK.due("text(0, 0) of words", x.text(0, 0), "0-2-1-2");
        CHECK.due("text(0, 2) of words", x.text(0, 2), "2-1-2");
        x.oneWay(false);
        CHECK.due("text(0, 2) of words made free", x.text(0, 2), "2-1-2");
        x.lay(0, 0);
        CHECK.due("text(0, 2) when words ended", x.text(0, 2), "");
        Allstreets thirty = new Allstreets();
        for (int street = 0; street < 30; street++) {
            thirty.lay(0, 0);
        }
        thirty.on(0, true);
        CHECK.due("text of thirty", thirty.text(0, 1).substring(0, 26), "0-1-2-3-4-5-6-7-8-9-10-11-");
        CHECK.due("text of thirty", thirty.text(0, 1).length(), 79);
    }

    private static void wordAt() {
        Allstreets x = new Allstreets();
        x.words(2, 3);
        x.on(0, false);
        CHECK.due("the round of signs", x.text(0, 2), "1-1-1-0-1-0-0-0");
        int[] places = {5, 6, 3, 7, 4, 2, 1, 0};
        for (int word = 0; word < 8; word++) {
            for (int from = 0; from < 30; from++) {
                int want = places[word] >= from ? places[word] : -1;
                CHECK.due("wordAt(0, " + word + ", " + from + ")", x.wordAt(0, word, from), want);
            }
        }
        CHECK.due("no such word", x.wordAt(0, 8, 0), -1);
        CHECK.due("no such word", x.wordAt(0, 29, 0), -1);
        CHECK.throwsArgument(x, "wordAt(0, 30, 0)", () -> x.wordAt(0, 30, 0));
        CHECK.throwsArgument(x, "wordAt(0, -1, 0)", () -> x.wordAt(0, -1, 0));
        CHECK.throwsArgument(x, "wordAt(0, 0, 30)", () -> x.wordAt(0, 0, 30));
        CHECK.throwsArgument(x, "wordAt(0, 0, -1)", () -> x.wordAt(0, 0, -1));
        CHECK.throwsIndex(x, "wordAt(3, 30, 30)", () -> x.wordAt(3, 30, 30));
        CHECK.throwsIndex(x, "wordAt(-1, 0, 0)", () -> x.wordAt(-1, 0, 0));
        x.turnTown();
        CHECK.due("wordAt when words ended", x.wordAt(0, 0, 0), -1);
    }

    private static void wordAtOnShortWalks() {
        Allstreets x = new Allstreets();
        x.words(2, 3);
        CHECK.due("wordAt without steps", x.wordAt(0, 0, 0), -1);
        Face.walk(x, 0, 0, 1);
        CHECK.due("one sign, read again and again", x.wordAt(0, 7, 0), 0);
        CHECK.due("one sign, another word", x.wordAt(0, 6, 0), -1);
        Face.walk(x, 0, 0, 1, 2);
        CHECK.due("signs 1-0: 101", x.wordAt(0, 5, 0), 0);
        CHECK.due("signs 1-0: 010", x.wordAt(0, 2, 0), 1);
        CHECK.due("signs 1-0: 010 from 1", x.wordAt(0, 2, 1), 1);
        CHECK.due("signs 1-0: 100", x.wordAt(0, 4, 0), -1);
        x.oneWay(false);
        Face.walk(x, 0, 1, 1, 0, 4, 2);
        CHECK.due("signs of a free walk", x.text(0, 2), "1-0-0-0");
        CHECK.due("the same word twice", x.wordAt(0, 0, 0), 1);
        CHECK.due("the same word once", x.wordAt(0, 1, 0), 2);
        CHECK.due("no word there", x.wordAt(0, 3, 0), -1);
    }

    private static void askingChangesNothing() {
        Allstreets x = new Allstreets();
        x.words(2, 2);
        x.on(0, true);
        x.cursor(0, 1);
        String before = Face.stateOf(x);
        Face.digestOf(x);
        x.text(0, 0);
        x.wordAt(0, 1, 0);
        x.same(0, 1);
        x.find(0, 0);
        CHECK.due("asking changes nothing", Face.stateOf(x), before);
        CHECK.due("asking is no act", x.house(0), 3);
    }

    private static void wrongWalks() {
        Allstreets x = Face.townOf(0, 1);
        for (int wrong : new int[] {-1, 3, Integer.MIN_VALUE, Integer.MAX_VALUE}) {
            CHECK.throwsIndex(x, "length of no walk", () -> x.length(wrong));
            CHECK.throwsIndex(x, "is of no walk", () -> x.is(wrong, true) ? 1 : 0);
            CHECK.throwsIndex(x, "is of no walk", () -> x.is(wrong, false) ? 1 : 0);
        }
    }
}
