import java.math.BigInteger;

/** What is counted and what is not, isSound() in towns at their edges, and the checksum's wrap-around. */
public final class WholeEdgesTest {
    private static final Check CHECK = new Check();
    private static final Edges EDGES = new Edges(CHECK);
    private static final String[] ASKED = {"streets", "end 0 true", "ways 0 0", "odd", "hangs", "kind", "isStart 0",
        "rule 0", "length 0", "cornerAt 0 0", "stepAt 0 0", "find 0 0", "is 0 true", "same 0 1", "turnOf 0 1", "text 0 0",
        "wordAt 0 0 0", "cursorCan true", "cursorPlace true", "house 0", "isSound", "digest"};

    public static void main(String[] args) {
        askedIsNoAct();
        everyActIsCountedOnce();
        countedAlsoIfNothingIsOther();
        countsGoOn();
        knocks();
        manyCalls();
        soundAtEdges();
        digestOfKnownTowns();
        digestWrapsAround();
        digestHasEachPlace();
        CHECK.end();
    }

    private static void askedIsNoAct() {
        String run = "words 2 2; on 0 true; cursor 0 1; cursorGo true; knock";
        for (String call : ASKED) {
            String first = Calls.answer(Calls.after(run), call);
            EDGES.due(run, call, first, "house 0", 4, "house 1", 0, "house 2", 1);
            // -9 is told by acts alone.
            CHECK.due(call + " tells -9", first.equals("-9"), false);
        }
    }

    private static void everyActIsCountedOnce() {
        String run = "lay 0 1; lay 1 0; lay 0 0; step 0 0 false; step 0 1 false; step 1 2 false; first 2 0 true; cursor 0 0; "
            + "cursorGo true";
        String[] acts = {"lay 1 1", "layRing 3 1", "words 3 2", "clear", "oneWay true", "turnTown", "begin 0 1",
            "step 0 2 true", "back 0 true", "on 0 true", "complete 0 true", "splice 0 1 0", "join 0 1", "cut 0 0 2 1",
            "turnRound 0", "rotate 0 1", "first 0 1 true", "next 2 true", "copy 0 1", "cursor 0 2", "cursorGo true",
            "cursorSet 0", "cursorRemove"};
        for (String act : acts) {
            Allstreets x = Calls.after(run);
            CHECK.due(act + " is refused", Calls.answer(x, act).equals("-9"), false);
            CHECK.due(act + "; house 0", x.house(0), 10);
            CHECK.due(act + "; house 1", x.house(1), 0);
        }
        EDGES.due(run + "; lay 5 5", "close 3", 3, "house 0", 11);
        EDGES.due(run + "; cursor 0 0", "cursorAdd 2", 1, "house 0", 11);
    }

    private static void countedAlsoIfNothingIsOther() {
        String[] acts = {"begin 0 0", "clear", "oneWay false", "turnTown", "on 0 true", "complete 0 true", "turnRound 0",
            "rotate 0 0", "rotate 0 30", "first 0 0 true", "copy 0 1", "cursor 0 0"};
        for (String act : acts) {
            EDGES.due("", act, 0, "house 0", 1, "house 1", 0);
        }
        EDGES.due("words 2 1", "words 2 1", 2, "house 0", 2);
        EDGES.due("lay 0 0; on 0 true; cursor 0 0; cursorGo true", "cursorSet 0", 0, "house 0", 5);
    }

    private static void countsGoOn() {
        String run = "lay 0 1; knock; step 0 0 false; cursor 0 0";
        EDGES.due(run, "words 2 2", 4, "house 0", 4, "house 1", 0, "house 2", 1, "words 5 4", -9, "house 0", 4, "house 1", 1);
        EDGES.due(run, "clear", 1, "house 0", 4, "house 2", 1, "cursorGo true", -9, "clear", 0, "house 0", 5, "house 1", 1,
            "lay 0 10", "throws.IndexOutOfBoundsException", "house 0", 5, "house 1", 1, "house 2", 1);
    }

    private static void knocks() {
        EDGES.due("", "house 2", 0);
        EDGES.due("", "knock", 1, "house 2", 1, "house 0", 0, "house 1", 0);
        EDGES.due("knock", "knock", 2, "house 2", 2);
        EDGES.due("knock; clear", "knock", 2);
        EDGES.due("knock; words 2 1", "knock", 2);
    }

    // Near to the 512 calls that an object is used for.
    private static void manyCalls() {
        Allstreets x = new Allstreets();
        for (int call = 1; call <= 100; call++) {
            CHECK.due("oneWay", x.oneWay(call % 2 == 0), call == 1 ? 0 : 1);
            CHECK.due("back", x.back(2, true), -9);
            CHECK.due("knock", x.knock(), call);
            CHECK.due("house(0)", x.house(0), call);
        }
        CHECK.due("house(1)", x.house(1), 100);
        CHECK.due("house(2)", x.house(2), 100);
        CHECK.due("digest()", x.digest(), Face.digestOf(x));
    }

    private static void soundAtEdges() {
        String[] runs = {"", "oneWay true", "lay 0 0", "lay 0 1", "lay 0 1; oneWay true", "lay 0 0; lay 1 1",
            "lay 0 1; lay 0 2; lay 0 3", "lay 0 1; lay 0 1; oneWay true", "begin 0 9; begin 1 4",
            "layRing 10 1; layRing 10 2; layRing 10 3", "layRing 10 1; layRing 10 2; layRing 10 3; oneWay true",
            "layRing 10 0; layRing 10 0; layRing 10 0", "words 2 1; oneWay false", "words 3 3; first 0 0 false",
            "words 5 2; complete 2 true; turnTown", "lay 1 0; lay 1 1; on 0 true; turnRound 0; turnTown",
            "words 2 3; oneWay false; begin 0 1; on 0 true; turnRound 0"};
        for (String run : runs) {
            EDGES.due(run, "isSound", true);
        }
    }

    // Reckoned outside of Java, from the values that stand with them, with whole numbers of any length.
    private static void digestOfKnownTowns() {
        // 0; corners 0 0 1; 0 1 2 0 0 0; walks 0 0 0 1 0; -2 -2 0 0 0 0 0 1
        EDGES.due("", "digest", 3320566575216297101L);
        // 1 3 4; corners 0 0 0, but 1 1 1 for 3 and 1 0 1 for 4; 2 1 1 0 0 0; walks 0 0 0 0 0; -2 -2 0 0 1 0 0 1
        EDGES.due("lay 3 4", "digest", -5466626585053061203L);
        // 2 0 0 0 0; corners 4 2 1, then 0 0 0; 0 1 2 2 1 1; walks 2 0 0 0 2 1 -1, 0 0 0 0 0, 0 0 0 0 -1; 1 0 1 1 3 0 1 1
        EDGES.due("words 2 1; on 0 true; cursor 0 1; knock", "digest", 2168687482068618473L);
    }

    // The checksum with whole numbers of any length, of which 64 bits are taken at the end alone.
    private static void digestWrapsAround() {
        String[] runs = {"", "lay 9 9", "layRing 10 9; layRing 10 9; layRing 10 9; complete 0 false; copy 0 1; copy 0 2",
            "words 5 2; first 0 0 false; cursor 0 25; cursorGo false", "oneWay true; knock",
            "words 3 3; on 2 false; begin 1 8", "lay 0 1; lay 1 2; begin 0 2; complete 0 true; cursor 0 0"};
        boolean isBelow = false;
        boolean isAbove = false;
        for (String run : runs) {
            Allstreets x = Calls.after(run);
            BigInteger whole = BigInteger.valueOf(7692);
            for (int value : Face.valuesOf(x)) {
                whole = whole.multiply(BigInteger.valueOf(31)).add(BigInteger.valueOf(value));
            }
            CHECK.due(run + ": more than 64 bits", whole.bitLength() > 64, true);
            CHECK.due(run + "; digest()", x.digest(), whole.longValue());
            isBelow |= x.digest() < 0;
            isAbove |= x.digest() > 0;
        }
        CHECK.due("some checksum is below 0 and some above", isBelow && isAbove, true);
    }

    // What one act makes other in the checksum, by the places of the values from its end, without streets.
    private static void digestHasEachPlace() {
        grows("", "knock", 1, 1);
        grows("", "back 0 true", 1, 2);
        grows("", "oneWay false", 1, 3);
        grows("", "oneWay true", 1, 3, 1, 23);
        grows("", "cursor 0 0", 1, 3, 1, 6, 2, 7);
        grows("", "begin 2 9", 1, 3, -1, 8, 9, 10, 9, 11, -1, 13);
        grows("", "begin 1 9", 1, 3, -1, 13, 9, 15, 9, 16, -1, 18);
        grows("", "begin 0 9", 1, 3, -1, 8, -1, 18, 9, 20, 9, 21);
    }

    // Pairs of how much more a value is and at which place from the end it stands.
    private static void grows(String run, String call, int... growths) {
        Allstreets x = Calls.after(run);
        long due = x.digest();
        for (int i = 0; i + 1 < growths.length; i += 2) {
            due += growths[i] * BigInteger.valueOf(31).pow(growths[i + 1]).longValue();
        }
        Calls.answer(x, call);
        CHECK.due(run + "; " + call + "; digest", x.digest(), due);
    }
}
