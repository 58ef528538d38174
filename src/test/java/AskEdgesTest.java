/** What is asked of walks at their edges: without steps, WHOLE ones, the first and the last place. */
public final class AskEdgesTest {
    private static final Edges EDGES = new Edges(new Check());
    private static final String ROUND = "lay 0 1; lay 1 2; lay 2 0; step 0 0 false; step 0 1 false; step 0 2 false";

    public static void main(String[] args) {
        withoutSteps();
        firstAndLastPlace();
        find();
        wholeOrHome();
        same();
        turnOfEachTurn();
        turnOfWhatIsNotHome();
        turnOfRepeats();
        turnOfWithoutSteps();
        textOfFew();
        textOfThirty();
        EDGES.end();
    }

    private static void withoutSteps() {
        for (int walk = 0; walk <= 2; walk++) {
            String run = "lay 0 1; begin " + walk + " 9";
            EDGES.due(run, "length " + walk, 0);
            EDGES.due(run, "cornerAt " + walk + " 0", 9);
            EDGES.due(run, "cornerAt " + walk + " 1", "throws.IndexOutOfBoundsException");
            EDGES.due(run, "stepAt " + walk + " 0", "throws.IndexOutOfBoundsException");
            EDGES.due(run, "find " + walk + " 0", -1);
            EDGES.due(run, "is " + walk + " true", false);
            EDGES.due(run, "is " + walk + " false", true);
            EDGES.due(run, "text " + walk + " 0", "9");
            EDGES.due(run, "text " + walk + " 1", "");
            EDGES.due(run, "text " + walk + " 2", "");
            EDGES.due(run, "wordAt " + walk + " 0 0", -1);
        }
    }

    private static void firstAndLastPlace() {
        EDGES.due(ROUND, "length 0", 3);
        EDGES.due(ROUND + "; rotate 0 1", "cornerAt 0 0", 1);
        EDGES.due(ROUND + "; rotate 0 1", "cornerAt 0 2", 0);
        EDGES.due(ROUND + "; rotate 0 1", "cornerAt 0 3", 1);
        EDGES.due(ROUND + "; rotate 0 1", "cornerAt 0 4", "throws.IndexOutOfBoundsException");
        EDGES.due(ROUND + "; turnRound 0", "stepAt 0 0", 5);
        EDGES.due(ROUND + "; turnRound 0", "stepAt 0 2", 1);
        EDGES.due(ROUND + "; turnRound 0", "stepAt 0 3", "throws.IndexOutOfBoundsException");
        EDGES.due(ROUND + "; back 0 false", "cornerAt 0 2", 2);
        EDGES.due(ROUND + "; back 0 false", "cornerAt 0 3", "throws.IndexOutOfBoundsException");
        EDGES.due(ROUND + "; back 0 false", "stepAt 0 2", "throws.IndexOutOfBoundsException");
    }

    private static void find() {
        EDGES.due(ROUND + "; turnRound 0", "find 0 2", 0);
        EDGES.due(ROUND + "; turnRound 0", "find 0 0", 2);
        EDGES.due(ROUND, "find 0 0", 0);
        EDGES.due(ROUND + "; lay 3 3", "find 0 3", -1);
        EDGES.due(ROUND + "; back 0 false", "find 0 2", -1);
        EDGES.due(ROUND + "; lay 9 9; close 3", "find 0 3", "throws.IndexOutOfBoundsException");
        EDGES.due(ROUND, "find 1 0", -1);
    }

    private static void wholeOrHome() {
        EDGES.due("", "is 2 true", true);
        EDGES.due("", "is 2 false", true);
        EDGES.due("lay 0 0", "is 0 true", false);
        EDGES.due("lay 0 0; on 0 true", "is 0 true", true);
        EDGES.due("lay 0 0; on 0 true", "is 0 false", true);
        EDGES.due("lay 0 1; on 0 true", "is 0 true", true);
        EDGES.due("lay 0 1; on 0 true", "is 0 false", false);
        EDGES.due("lay 0 1; on 0 true", "is 1 true", false);
        EDGES.due(ROUND, "is 0 true", true);
        EDGES.due(ROUND + "; back 0 true", "is 0 true", false);
        EDGES.due(ROUND + "; back 0 true", "is 0 false", false);
        EDGES.due(ROUND + "; lay 0 0", "is 0 true", false);
        EDGES.due(ROUND + "; lay 0 0; close 3", "is 0 true", true);
        EDGES.due("lay 0 0; close 0", "is 0 true", true);
    }

    private static void same() {
        EDGES.due("", "same 0 0", true);
        EDGES.due("", "same 0 2", true);
        EDGES.due("begin 2 1", "same 0 2", false);
        EDGES.due(ROUND, "same 0 1", false);
        EDGES.due(ROUND, "same 1 0", false);
        EDGES.due(ROUND + "; copy 0 1", "same 0 1", true);
        EDGES.due(ROUND + "; copy 0 1; back 1 false", "same 0 1", false);
        EDGES.due(ROUND + "; copy 0 1; back 1 false", "same 1 0", false);
        EDGES.due(ROUND + "; copy 0 1; rotate 1 1", "same 0 1", false);
        EDGES.due(ROUND + "; copy 0 1; rotate 1 3", "same 0 1", true);
        EDGES.due(ROUND + "; copy 0 1; turnRound 1", "same 0 1", false);
        // One BEGIN, but unlike at the first step alone; or at the last; or in another order; or another way.
        String first = "lay 0 1; lay 0 1; lay 1 2; step 0 0 false; step 0 2 false; step 1 1 false; step 1 2 false";
        EDGES.due(first, "same 0 1", false);
        EDGES.due(first, "turnOf 0 1", -1);
        EDGES.due("lay 0 1; lay 1 2; lay 1 2; step 0 0 false; step 0 1 false; step 1 0 false; step 1 2 false", "same 0 1",
            false);
        EDGES.due("lay 0 0; lay 0 0; step 0 0 false; step 0 1 false; step 1 1 false; step 1 0 false", "same 0 1", false);
        EDGES.due("lay 0 1; lay 0 1; step 0 0 false; step 0 1 false; begin 1 1; step 1 0 false; step 1 1 false", "same 0 1",
            false);
    }

    private static void turnOfEachTurn() {
        for (int by = 0; by <= 3; by++) {
            String run = ROUND + "; copy 0 1; rotate 1 " + by;
            EDGES.due(run, "turnOf 0 1", by % 3);
            EDGES.due(run, "turnOf 1 0", (3 - by) % 3);
        }
        EDGES.due(ROUND, "turnOf 0 0", 0);
        EDGES.due(ROUND, "turnOf 0 1", -1);
        EDGES.due(ROUND, "turnOf 1 0", -1);
        EDGES.due(ROUND + "; copy 0 1; turnRound 1", "turnOf 0 1", -1);
        EDGES.due(ROUND + "; copy 0 1; rotate 1 1; back 1 false", "turnOf 0 1", -1);
    }

    private static void turnOfWhatIsNotHome() {
        String row = "lay 0 1; lay 1 2; step 0 0 false; step 0 1 false";
        EDGES.due(row, "turnOf 0 0", 0);
        EDGES.due(row + "; copy 0 1", "turnOf 0 1", 0);
        EDGES.due(row + "; begin 1 0; step 1 0 false", "turnOf 0 1", -1);
        EDGES.due(row + "; copy 0 1; turnRound 1", "turnOf 0 1", -1);
        // Steps that would be the same turned, and even from a corner of the walk.
        EDGES.due("lay 0 1; lay 1 1; lay 1 0; step 0 0 false; step 0 1 false; begin 1 1; step 1 1 false; step 1 0 false",
            "turnOf 0 1", -1);
        EDGES.due("lay 0 1; lay 1 0; lay 1 0; step 0 0 false; step 0 1 false; begin 1 1; step 1 1 false; step 1 0 false",
            "turnOf 0 1", 1);
    }

    // LOOPS at one corner: each turn is HOME, and BEGIN is the same for all.
    private static void turnOfRepeats() {
        String loops = "layRing 1 0; layRing 1 0; layRing 1 0; on 0 true; ";
        EDGES.due(loops + "step 1 1 false; step 1 2 false; step 1 0 false", "turnOf 0 1", 1);
        EDGES.due(loops + "step 1 2 false; step 1 0 false; step 1 1 false", "turnOf 0 1", 2);
        EDGES.due(loops + "step 1 0 false; step 1 2 false; step 1 1 false", "turnOf 0 1", -1);
        EDGES.due(loops + "step 1 1 false; step 1 0 false; step 1 2 false", "turnOf 0 1", -1);
        EDGES.due("layRing 1 0; on 0 true; copy 0 1", "turnOf 0 1", 0);
        String thirty = "layRing 1 0; ".repeat(30) + "on 0 true; copy 0 1; rotate 1 29";
        EDGES.due(thirty, "turnOf 0 1", 29);
        EDGES.due(thirty, "turnOf 1 0", 1);
    }

    private static void turnOfWithoutSteps() {
        EDGES.due("", "turnOf 0 1", 0);
        EDGES.due("begin 1 9", "turnOf 0 1", -1);
        EDGES.due("begin 1 9; begin 0 9", "turnOf 0 1", 0);
        EDGES.due("lay 0 0; step 0 0 false", "turnOf 0 1", -1);
        EDGES.due("lay 0 0; step 0 0 false", "turnOf 1 0", -1);
    }

    private static void textOfFew() {
        EDGES.due("lay 0 9; on 0 true", "text 0 0", "0-9");
        EDGES.due("lay 0 9; on 0 true", "text 0 1", "0");
        EDGES.due("lay 0 9; on 0 true", "text 0 2", "");
        EDGES.due(ROUND + "; turnRound 0", "text 0 1", "2-1-0");
        EDGES.due("words 2 1; step 0 1 false", "text 0 2", "1");
        EDGES.due("words 2 1; step 0 1 false", "text 1 2", "");
        EDGES.due("words 2 1; step 0 1 false", "text 0 0", "0-0");
    }

    private static void textOfThirty() {
        StringBuilder corners = new StringBuilder("0");
        StringBuilder streets = new StringBuilder();
        for (int street = 0; street < 30; street++) {
            corners.append('-').append((street + 1) % 10);
            streets.append(street == 0 ? "" : "-").append(street);
        }
        String run = "layRing 10 1; layRing 10 1; layRing 10 1; oneWay true; on 0 true";
        EDGES.due(run, "text 0 0", corners.toString());
        EDGES.due(run, "text 0 1", streets.toString());
        EDGES.due(run, "text 0 2", "");
        EDGES.due("words 5 2; first 0 0 true", "text 0 2", "0-1-0-2-0-3-0-4-1-1-2-1-3-1-4-2-2-3-2-4-3-3-4-4-0");
    }
}
