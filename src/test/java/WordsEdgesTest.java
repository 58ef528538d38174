/** A TOWN OF WORDS: which acts end it and which do not, its SIGNS, and the words that are read from a walk. */
public final class WordsEdgesTest {
    private static final Edges EDGES = new Edges(new Check());
    private static final String WORDS = "words 2 3";
    private static final String WALKED = WORDS + "; on 0 false; cursor 0 8; cursorGo false";

    public static void main(String[] args) {
        noWordsAtFirst();
        endedByActs();
        keptByActs();
        keptByRefusals();
        keptByExceptions();
        begunAgain();
        wordsEmptyAll();
        signs();
        wordsReadAsRound();
        wordsFromPlaces();
        noSuchWord();
        shortRounds();
        EDGES.end();
    }

    private static void noWordsAtFirst() {
        for (String run : new String[] {"", "oneWay true", "layRing 2 0; layRing 2 1"}) {
            EDGES.due(run, "rule 0", 0);
            EDGES.due(run, "rule 1", 0);
        }
    }

    private static void ended(String run, String call, Object want, int isOneWay) {
        EDGES.due(run, call, want, "rule 0", 0, "rule 1", 0, "rule 2", isOneWay, "text 0 2", "", "wordAt 0 0 0", -1);
    }

    private static void kept(String run, String call, Object want) {
        EDGES.due(run, call, want, "rule 0", 2, "rule 1", 3, "rule 2", 1);
    }

    private static void endedByActs() {
        ended(WALKED, "lay 0 0", 8, 1);
        ended(WALKED, "layRing 1 0", 9, 1);
        ended(WALKED + "; begin 0 0", "close 7", 7, 1);
        ended(WALKED, "clear", 8, 0);
        ended(WALKED, "turnTown", 8, 1);
        ended(WORDS + "; oneWay false", "turnTown", 8, 0);
        ended(WORDS + "; oneWay false", "lay 9 9", 8, 0);
        // Also where all streets stand as before, or again.
        ended("words 2 1", "turnTown", 2, 1);
        ended("words 2 1; close 1", "lay 0 0", 1, 1);
        ended("words 2 1; lay 5 5", "close 2", 2, 1);
        ended("words 5 2; layRing 5 0", "turnTown", 30, 1);
        ended("words 3 3", "layRing 3 0", 30, 1);
    }

    private static void keptByActs() {
        kept(WALKED, "oneWay true", 0);
        EDGES.due(WALKED, "oneWay false", 1, "rule 0", 2, "rule 1", 3, "rule 2", 0);
        kept(WALKED + "; oneWay false", "oneWay true", 1);
        kept(WALKED, "begin 0 1", 8);
        kept(WALKED, "step 1 0 false", 0);
        kept(WALKED, "step 1 0 true", 0);
        kept(WALKED, "back 0 true", 2);
        kept(WALKED, "on 1 false", 8);
        kept(WALKED, "complete 1 true", 8);
        kept(WALKED + "; begin 1 0", "splice 1 0 0", 8);
        kept(WALKED, "join 1 0", 0);
        kept(WALKED, "cut 0 0 8 1", 8);
        EDGES.due(WALKED + "; oneWay false", "turnRound 0", 0, "rule 0", 2, "rule 1", 3, "rule 2", 0);
        kept(WALKED, "rotate 0 3", 3);
        kept(WALKED, "first 2 3 true", 8);
        kept(WALKED + "; first 0 0 true", "next 0 true", 2);
        kept(WALKED, "copy 0 2", 8);
        kept(WALKED, "cursor 0 3", 3);
        kept(WALKED, "cursorGo true", 0);
        kept(WALKED, "cursorSet 0", 0);
        kept(WALKED, "cursorRemove", 0);
        kept(WALKED + "; cursor 1 0", "cursorAdd 0", 1);
        kept(WALKED, "knock", 1);
    }

    private static void keptByRefusals() {
        EDGES.due("words 3 3", "layRing 4 1", -9, "rule 0", 3, "rule 1", 3, "rule 2", 1);
        EDGES.due("words 5 2; on 0 true", "close 3", -9, "rule 0", 5, "rule 1", 2, "rule 2", 1);
        EDGES.due("words 5 2", "layRing 6 1", -9, "rule 0", 5, "rule 1", 2, "rule 2", 1);
        kept(WALKED, "close 0", -9);
        kept(WALKED, "words 4 3", -9);
        kept(WALKED, "words 3 4", -9);
        kept(WALKED, "words 5 4", -9);
        kept(WALKED, "turnRound 0", -9);
        EDGES.due(WORDS + "; oneWay false; begin 0 1; step 0 1 false", "oneWay true", -9, "rule 0", 2, "rule 1", 3, "rule 2",
            0);
    }

    private static void keptByExceptions() {
        for (String call : new String[] {"lay 10 0", "lay 0 -1", "close 8", "close -1"}) {
            kept(WALKED, call, "throws.IndexOutOfBoundsException");
        }
        for (String call : new String[] {"layRing 0 0", "layRing 11 0", "layRing 1 10", "words 1 1", "words 6 1",
            "words 2 0", "words 2 5"}) {
            kept(WALKED, call, "throws.IllegalArgumentException");
        }
    }

    private static void begunAgain() {
        EDGES.due(WORDS + "; lay 0 0", "words 5 1", 5, "rule 0", 5, "rule 1", 1, "rule 2", 1);
        EDGES.due(WORDS, "words 5 1", 5, "rule 0", 5, "rule 1", 1, "rule 2", 1);
        EDGES.due(WORDS + "; oneWay false", "words 2 4", 16, "rule 0", 2, "rule 1", 4, "rule 2", 1);
        EDGES.due("layRing 10 1; layRing 10 1; layRing 10 1", "words 2 1", 2, "rule 0", 2, "rule 1", 1, "rule 2", 1);
    }

    private static void wordsEmptyAll() {
        String run = "lay 1 0; layRing 5 1; step 0 0 false; begin 1 2; step 1 3 false; begin 2 9; cursor 0 1; knock";
        EDGES.due(run, "words 2 1", 2, "streets", 2, "text 0 0", "0", "text 1 0", "0", "text 2 0", "0",
            "cursorPlace true", -2, "cursorCan false", false, "cursorGo false", -9, "house 2", 1);
        EDGES.due(run, "clear", 6, "streets", 0, "text 0 0", "0", "text 1 0", "0", "text 2 0", "0", "rule 2", 0,
            "cursorPlace true", -2, "cursorPlace false", -2, "cursorRemove", -9, "house 2", 1);
        EDGES.due(run + "; back 0 true", "clear", 6, "cursorPlace true", -2);
        EDGES.due(run, "words 5 3", -9, "streets", 6, "text 0 0", "0-1", "cursorPlace true", 1);
    }

    private static void signs() {
        EDGES.due("words 2 3; on 0 false", "text 0 2", "1-1-1-0-1-0-0-0");
        EDGES.due("words 2 3", "text 0 2", "");
        EDGES.due("words 5 2; begin 0 4; step 0 24 false; step 0 20 false", "text 0 2", "4-0");
        EDGES.due("words 5 2; begin 0 4; step 0 24 false; step 0 20 false", "text 0 1", "24-20");
        EDGES.due("words 5 2; begin 0 4; step 0 24 false; step 0 20 false", "text 0 0", "4-4-0");
        EDGES.due("words 2 1; on 0 false", "text 0 2", "1-0");
        // A street that is walked BACKWARD has the same SIGN.
        EDGES.due("words 2 3; oneWay false; begin 0 1; step 0 1 false", "text 0 2", "1");
        EDGES.due("words 2 3; on 0 false; lay 9 9", "text 0 2", "");
        EDGES.due("words 2 3; on 0 false; turnTown", "text 0 2", "");
    }

    private static void wordsReadAsRound() {
        // Word 0 stands at the last place, over the end.
        String run = "words 2 2; first 0 0 true";
        EDGES.due(run, "text 0 2", "0-1-1-0");
        EDGES.due(run, "wordAt 0 1 0", 0);
        EDGES.due(run, "wordAt 0 3 0", 1);
        EDGES.due(run, "wordAt 0 2 0", 2);
        EDGES.due(run, "wordAt 0 0 0", 3);
        // A walk that is not HOME is read as a round as well.
        String row = "words 2 3; step 0 1 false; step 0 3 false; step 0 7 false";
        EDGES.due(row, "text 0 2", "1-1-1");
        EDGES.due(row, "wordAt 0 7 0", 0);
        EDGES.due(row, "wordAt 0 7 2", 2);
        EDGES.due(row, "wordAt 0 6 0", -1);
    }

    private static void wordsFromPlaces() {
        String run = "words 2 2; first 0 0 true";
        for (int from = 0; from <= 29; from++) {
            EDGES.due(run, "wordAt 0 0 " + from, from <= 3 ? 3 : -1);
            EDGES.due(run, "wordAt 0 1 " + from, from == 0 ? 0 : -1);
            EDGES.due(run, "wordAt 0 2 " + from, from <= 2 ? 2 : -1);
            EDGES.due(run, "wordAt 1 0 " + from, -1);
        }
        // The same word at both places of a walk that goes BACKWARD.
        String twice = "words 2 2; oneWay false; step 0 0 false; step 0 2 false";
        EDGES.due(twice, "text 0 2", "0-0");
        EDGES.due(twice, "wordAt 0 0 0", 0);
        EDGES.due(twice, "wordAt 0 0 1", 1);
        EDGES.due(twice, "wordAt 0 0 2", -1);
        String loops = "words 2 1; step 0 0 false; step 0 1 false";
        EDGES.due(loops, "wordAt 0 0 0", 0);
        EDGES.due(loops, "wordAt 0 0 1", -1);
        EDGES.due(loops, "wordAt 0 1 0", 1);
        EDGES.due(loops, "wordAt 0 1 1", 1);
        EDGES.due(loops, "wordAt 0 1 2", -1);
    }

    private static void noSuchWord() {
        EDGES.due("words 2 1; on 0 true", "wordAt 0 2 0", -1);
        EDGES.due("words 2 2; on 0 true", "wordAt 0 4 0", -1);
        EDGES.due("words 2 2; on 0 true", "wordAt 0 5 0", -1);
        EDGES.due("words 2 2; on 0 true", "wordAt 0 29 0", -1);
        EDGES.due("words 5 2; on 0 true; complete 0 true", "wordAt 0 25 0", -1);
        EDGES.due("words 5 2; on 0 true; complete 0 true", "wordAt 0 29 24", -1);
        EDGES.due("layRing 2 0; layRing 2 1; complete 0 true", "wordAt 0 0 0", -1);
        EDGES.due("words 2 2; complete 0 true; turnTown; turnTown", "wordAt 0 0 0", -1);
    }

    // A round that is shorter than the word is read as often as must be.
    private static void shortRounds() {
        String one = "words 2 4; step 0 0 false";
        EDGES.due(one, "wordAt 0 0 0", 0);
        EDGES.due(one, "wordAt 0 0 1", -1);
        EDGES.due(one, "wordAt 0 1 0", -1);
        EDGES.due(one, "wordAt 0 15 0", -1);
        String two = "words 2 4; step 0 1 false; step 0 2 false";
        EDGES.due(two, "text 0 2", "1-0");
        EDGES.due(two, "wordAt 0 10 0", 0);
        EDGES.due(two, "wordAt 0 5 0", 1);
        EDGES.due(two, "wordAt 0 10 1", -1);
        EDGES.due(two, "wordAt 0 9 0", -1);
        String three = two + "; step 0 4 false";
        EDGES.due(three, "text 0 2", "1-0-0");
        EDGES.due(three, "wordAt 0 9 0", 0);
        EDGES.due(three, "wordAt 0 2 0", 1);
        EDGES.due(three, "wordAt 0 4 0", 2);
        EDGES.due(three, "wordAt 0 8 0", -1);
    }
}
