/** Walks at their edges: without steps, with one, WHOLE ones; the places 0 and LENGTH; loops and ONE-WAY towns. */
public final class WalkEdgesTest {
    private static final Edges EDGES = new Edges(new Check());
    // A round 0-1-2-0, a loop at 1 and one at 0, a round 1-3-1, and 5-6 apart.
    private static final String TOWN = "lay 0 1; lay 1 2; lay 2 0; lay 1 1; lay 0 0; lay 1 3; lay 3 1; lay 5 6";
    private static final String ROUND = TOWN + "; step 0 0 false; step 0 1 false; step 0 2 false";

    public static void main(String[] args) {
        begin();
        stepOnNoStep();
        stepAtBothEnds();
        stepPrefersForward();
        loopsGoForward();
        oneWaySteps();
        back();
        on();
        completeEdges();
        completePlaces();
        completeRefused();
        spliceAtEachPlace();
        spliceEmptiesTheOther();
        spliceRefused();
        joinPlaces();
        joinRefused();
        cutPlaces();
        cutRefused();
        turnRound();
        turnTown();
        rotate();
        firstEdges();
        nextEdges();
        copy();
        wholeWalk("oneWay false");
        wholeWalk("oneWay true");
        wholeWalkOfAllLoops();
        EDGES.end();
    }

    private static void begin() {
        EDGES.due("", "begin 0 0", 0, "text 0 0", "0");
        EDGES.due("", "begin 2 9", 0, "text 2 0", "9", "text 1 0", "0", "text 0 0", "0");
        EDGES.due(ROUND, "begin 0 0", 3, "text 0 0", "0", "length 0", 0);
        EDGES.due(ROUND, "begin 0 9", 3, "text 0 0", "9", "length 0", 0);
        EDGES.due(ROUND + "; copy 0 1; copy 0 2", "begin 1 5", 3, "text 0 1", "0-1-2", "text 1 0", "5", "text 2 1",
            "0-1-2");
    }

    private static void stepOnNoStep() {
        EDGES.due(TOWN + "; begin 0 1", "step 0 0 false", 0, "stepAt 0 0", 1, "text 0 0", "1-0");
        EDGES.due(TOWN + "; begin 0 1", "step 0 0 true", 0, "stepAt 0 0", 0, "text 0 0", "0-1");
        EDGES.due(TOWN + "; begin 0 1", "step 0 2 true", -9);
        EDGES.due(TOWN + "; begin 0 1", "step 0 2 false", -9);
        EDGES.due(TOWN + "; begin 0 1", "step 0 3 true", 1, "stepAt 0 0", 6);
        EDGES.due(TOWN + "; begin 0 1", "step 0 3 false", 1, "stepAt 0 0", 6);
    }

    // From END behind the last step, to BEGIN ahead of the first: where these differ, only one of them can be done.
    private static void stepAtBothEnds() {
        String run = "lay 0 1; lay 1 2; lay 3 0; step 0 0 false";
        EDGES.due(run, "step 0 1 false", 2, "text 0 0", "0-1-2", "text 0 1", "0-1");
        EDGES.due(run, "step 0 1 true", -9);
        EDGES.due(run, "step 0 2 true", 3, "text 0 0", "3-0-1", "text 0 1", "2-0");
        EDGES.due(run, "step 0 2 false", -9);
        EDGES.due(run, "step 0 0 false", -9);
        EDGES.due(run, "step 0 0 true", -9);
        // In the walk, though it would leave END or come to BEGIN.
        EDGES.due("lay 0 1; lay 1 0; step 0 0 false; step 0 1 false", "step 0 0 false", -9);
        EDGES.due("lay 0 1; lay 1 0; step 0 0 false; step 0 1 false", "step 0 1 true", -9);
        // In another walk it may be.
        EDGES.due("lay 0 1; step 0 0 false; step 1 0 false", "step 2 0 false", 1);
    }

    private static void stepPrefersForward() {
        EDGES.due("lay 0 1; lay 0 1; step 0 0 false", "step 0 1 false", 0, "stepAt 0 1", 3);
        EDGES.due("lay 0 1; lay 1 0; step 0 0 false", "step 0 1 false", 0, "stepAt 0 1", 2);
        EDGES.due("lay 0 1; lay 0 1; begin 0 1; step 0 0 true", "step 0 1 true", 1, "stepAt 0 0", 3, "stepAt 0 1", 0);
        EDGES.due("lay 0 1; lay 1 0; begin 0 1; step 0 0 true", "step 0 1 true", 1, "stepAt 0 0", 2, "stepAt 0 1", 0);
    }

    private static void loopsGoForward() {
        String run = "lay 4 4; lay 4 4; begin 0 4";
        EDGES.due(run, "step 0 1 false", 4, "stepAt 0 0", 2);
        EDGES.due(run, "step 0 1 true", 4, "stepAt 0 0", 2);
        EDGES.due(run, "on 0 false", 2, "stepAt 0 0", 2, "stepAt 0 1", 0);
        EDGES.due(run, "complete 0 true", 2, "stepAt 0 0", 0, "stepAt 0 1", 2);
        EDGES.due(run, "first 0 4 false", 2, "stepAt 0 0", 2, "stepAt 0 1", 0);
        EDGES.due(run + "; first 0 4 true", "next 0 true", 0, "stepAt 0 0", 2, "stepAt 0 1", 0);
        EDGES.due(run + "; on 0 true", "turnRound 0", 4, "stepAt 0 0", 2, "stepAt 0 1", 0);
        EDGES.due(run + "; on 0 true", "turnTown", 2, "stepAt 0 0", 2, "stepAt 0 1", 0);
        EDGES.due(run + "; on 0 true; turnRound 0; turnTown", "oneWay true", 1);
    }

    private static void oneWaySteps() {
        String run = "lay 0 1; lay 2 1; oneWay true; step 0 0 false";
        EDGES.due(run, "step 0 1 false", -9);
        EDGES.due(run, "step 1 0 true", -9);
        EDGES.due(run, "on 0 true", 0);
        EDGES.due(run + "; begin 1 1", "step 1 1 false", -9);
        EDGES.due(run + "; begin 1 1", "step 1 1 true", 2, "stepAt 1 0", 2);
        EDGES.due(run + "; oneWay false", "step 0 1 false", 2, "stepAt 0 1", 3);
        EDGES.due("lay 0 1; lay 0 2; oneWay true; step 0 0 false", "step 0 1 true", -9);
        // What is BACKWARD in just one walk, at its first, its last or its only step, keeps the town FREE.
        String row = "lay 0 1; lay 1 2; lay 3 2; lay 4 3; ";
        EDGES.due(row + "step 2 0 false; step 2 1 false", "oneWay true", 1);
        EDGES.due(row + "step 2 0 false; step 2 1 false; step 2 2 false", "oneWay true", -9);
        EDGES.due(row + "begin 1 2; step 1 1 false; step 1 0 false", "oneWay true", -9);
        EDGES.due(row + "begin 0 3; step 0 3 true; step 0 2 false; begin 1 3; step 1 3 false", "oneWay true", -9);
        EDGES.due(row + "begin 0 1; step 0 0 false; back 0 false", "oneWay true", 1);
        EDGES.due(row + "begin 0 1; step 0 0 false", "oneWay false", 0);
    }

    private static void back() {
        for (int walk = 0; walk <= 2; walk++) {
            EDGES.due(TOWN, "back " + walk + " true", -9);
            EDGES.due(TOWN, "back " + walk + " false", -9);
        }
        EDGES.due(TOWN + "; step 0 0 false", "back 0 false", 0, "text 0 0", "0");
        EDGES.due(TOWN + "; step 0 0 false", "back 0 true", 0, "text 0 0", "1");
        EDGES.due(TOWN + "; begin 0 1; step 0 0 false", "back 0 true", 1, "text 0 0", "0");
        EDGES.due(ROUND, "back 0 false", 4, "text 0 0", "0-1-2");
        EDGES.due(ROUND, "back 0 true", 0, "text 0 0", "1-2-0");
        EDGES.due(ROUND + "; back 0 true; back 0 true; back 0 true", "back 0 true", -9);
        EDGES.due(ROUND + "; back 0 false; back 0 false; back 0 false", "text 0 0", "0");
        EDGES.due(ROUND + "; back 0 true; back 0 true; back 0 true", "text 0 0", "0");
    }

    private static void on() {
        EDGES.due(TOWN + "; begin 0 9", "on 0 true", 0, "text 0 0", "9");
        EDGES.due(TOWN, "on 0 true", 4, "text 0 1", "0-1-2-4");
        EDGES.due(TOWN, "on 0 false", 7, "text 0 1", "4-2-1-6-5-3-0");
        EDGES.due(TOWN + "; on 0 true", "on 0 true", 0, "text 0 1", "0-1-2-4");
        EDGES.due(TOWN + "; on 0 true", "on 0 false", 0);
        EDGES.due(TOWN + "; on 0 true; back 0 false", "on 0 false", 1, "text 0 1", "0-1-2-4");
        EDGES.due(TOWN + "; on 0 true", "on 1 true", 4, "text 1 1", "0-1-2-4");
    }

    private static void completeEdges() {
        String run = "lay 0 1; lay 1 2; lay 2 0";
        EDGES.due(run, "complete 0 true", 3, "text 0 1", "0-1-2", "is 0 true", true);
        EDGES.due(run, "complete 0 false", 3, "text 0 1", "2-1-0", "is 0 true", true);
        EDGES.due(run + "; first 0 0 true", "complete 0 true", 0, "text 0 1", "0-1-2");
        EDGES.due(run + "; first 0 0 true; back 0 false", "complete 0 true", 1, "text 0 1", "0-1-2");
        EDGES.due(run + "; first 0 0 true; back 0 true", "complete 0 true", 1, "text 0 1", "1-2-0", "cornerAt 0 0", 1);
        EDGES.due("", "complete 1 false", 0);
        // A walk that is HOME at once, from where no street is left: the rounds come in at the places behind.
        EDGES.due("lay 0 1; lay 1 0; lay 1 1", "complete 0 true", 3, "text 0 1", "0-2-1");
    }

    // Rounds come in at place 0, inside of rounds that came in, and at LENGTH as it is then.
    private static void completePlaces() {
        String run = "lay 0 1; lay 0 2; lay 2 0; oneWay true";
        EDGES.due(run + "; step 0 0 false", "complete 0 true", 2, "text 0 1", "1-2-0");
        EDGES.due("lay 0 1; lay 1 2; lay 2 1; oneWay true; step 0 0 false", "complete 0 true", 2, "text 0 1", "0-1-2");
        EDGES.due("lay 0 1; lay 1 0; lay 0 2; lay 2 0; lay 2 2; oneWay true; step 0 0 false; step 0 1 false; begin 1 2",
            "complete 0 true", 3, "text 0 1", "0-1-2-4-3");
        // The streets 0 and 1 first, then 2-3 at place 1, and 4-5 inside of these.
        EDGES.due("lay 0 1; lay 1 0; lay 1 2; lay 2 1; lay 2 3; lay 3 2; oneWay true", "complete 0 true", 6, "text 0 1",
            "0-2-4-5-3-1");
        EDGES.due("lay 0 1; lay 1 0; lay 1 2; lay 2 1; lay 2 3; lay 3 2; oneWay true", "complete 0 false", 6, "text 0 1",
            "0-2-4-5-3-1");
        EDGES.due("lay 0 1; lay 1 0; lay 1 1; lay 1 1; lay 0 0; oneWay true", "complete 0 true", 5, "text 0 1",
            "0-2-3-1-4");
    }

    private static void completeRefused() {
        EDGES.due("lay 0 1; lay 1 2; begin 0 1", "complete 0 true", -9);
        EDGES.due("lay 0 1; lay 1 2; begin 0 1; step 0 0 false", "complete 0 true", -9);
        EDGES.due("lay 0 1; lay 1 2; begin 0 9", "complete 0 false", -9);
        EDGES.due("lay 0 1; lay 1 2; begin 0 2", "complete 0 true", 2, "text 0 1", "1-0");
        EDGES.due("lay 0 1; lay 1 2; oneWay true; begin 0 2", "complete 0 true", -9);
        EDGES.due("lay 0 1; lay 1 0; lay 5 6", "complete 0 true", -9);
        EDGES.due("lay 0 1; lay 0 2; lay 0 3", "complete 0 true", -9);
    }

    private static void spliceAtEachPlace() {
        String run = "lay 0 0; lay 0 0; lay 0 0; lay 0 0; step 0 0 false; step 0 1 false; step 1 2 false; step 1 3 false";
        EDGES.due(run, "splice 0 1 0", 4, "text 0 1", "2-3-0-1", "text 1 1", "");
        EDGES.due(run, "splice 0 1 1", 4, "text 0 1", "0-2-3-1", "text 1 1", "");
        EDGES.due(run, "splice 0 1 2", 4, "text 0 1", "0-1-2-3", "text 1 1", "");
        EDGES.due(run, "splice 1 0 2", 4, "text 1 1", "2-3-0-1", "text 0 1", "");
        EDGES.due(run, "splice 2 0 0", 2, "text 2 1", "0-1", "text 0 1", "");
        EDGES.due(run + "; splice 0 1 2", "splice 1 0 0", 4, "text 1 1", "0-1-2-3");
    }

    private static void spliceEmptiesTheOther() {
        String run = ROUND + "; begin 1 1; step 1 3 false";
        EDGES.due(run, "splice 0 1 1", 4, "text 0 0", "0-1-1-2-0", "text 1 0", "1", "is 1 false", true);
        EDGES.due(run + "; begin 1 2; begin 2 2", "splice 2 1 0", -9);
        // Into a walk that is not HOME, and one that came there BACKWARD.
        EDGES.due(run + "; back 0 false", "splice 0 1 1", 3, "text 0 0", "0-1-1-2");
        EDGES.due(ROUND + "; turnRound 0; begin 1 1; step 1 3 false", "splice 0 1 2", 4, "text 0 0", "0-2-1-1-0");
        EDGES.due(ROUND + "; turnRound 0; begin 1 1; step 1 3 false", "splice 0 1 1", -9);
    }

    // One reason each time, all else is as it must be.
    private static void spliceRefused() {
        EDGES.due(ROUND, "splice 0 0 0", -9);
        EDGES.due(ROUND, "splice 0 0 3", -9);
        EDGES.due(ROUND + "; begin 1 0", "splice 0 1 0", -9);
        EDGES.due(ROUND + "; begin 1 1; step 1 5 false", "splice 0 1 1", -9);
        EDGES.due(ROUND + "; begin 1 1; step 1 3 false", "splice 0 1 0", -9);
        EDGES.due(ROUND + "; begin 1 1; step 1 3 false", "splice 0 1 2", -9);
        EDGES.due(ROUND + "; begin 1 1; step 1 3 false", "splice 0 1 3", -9);
        EDGES.due(ROUND + "; copy 0 1", "splice 0 1 0", -9);
        EDGES.due(ROUND + "; copy 0 1; turnRound 1", "splice 0 1 3", -9);
        EDGES.due(TOWN + "; begin 0 1; step 0 3 false; copy 0 1; step 1 5 false; step 1 6 false", "splice 0 1 1", -9);
    }

    private static void joinPlaces() {
        // The first place of the walk, then the least steps of the other one.
        String run = ROUND + "; begin 1 3; step 1 6 false; step 1 3 false; step 1 5 false";
        EDGES.due(run, "join 0 1", 1, "text 0 1", "0-3-5-6-1-2", "text 1 0", "1");
        EDGES.due(run, "join 1 0", 1, "text 1 1", "6-1-2-0-3-5", "text 0 0", "1");
        EDGES.due(run + "; begin 0 1", "join 0 1", 0, "text 0 1", "3-5-6");
        EDGES.due(run + "; begin 0 3", "join 0 1", 0, "text 0 1", "6-3-5", "text 1 0", "3");
        EDGES.due(run + "; begin 0 0; step 0 0 false", "join 0 1", 1, "text 0 1", "0-3-5-6", "text 1 0", "1");
        EDGES.due(run + "; begin 0 0", "join 0 1", -9);
        // At LENGTH, and where the other one has it as BEGIN.
        EDGES.due(run + "; begin 2 2; step 2 1 false", "join 2 1", 1, "text 2 1", "1-3-5-6");
        EDGES.due(run + "; rotate 1 1; begin 2 2; step 2 1 false", "join 2 1", 1, "text 2 1", "1-3-5-6");
        EDGES.due(run + "; rotate 1 2; begin 2 2; step 2 1 false", "join 2 1", 1, "text 2 1", "1-5-6-3");
    }

    private static void joinRefused() {
        EDGES.due(ROUND, "join 0 0", -9);
        EDGES.due(ROUND, "join 0 1", -9);
        EDGES.due(ROUND + "; begin 1 1; step 1 5 false", "join 0 1", -9);
        EDGES.due(ROUND + "; copy 0 1", "join 0 1", -9);
        EDGES.due(ROUND + "; copy 0 1; rotate 1 1", "join 0 1", -9);
        EDGES.due(ROUND + "; lay 6 5; begin 1 5; step 1 7 false; step 1 8 false", "join 0 1", -9);
        EDGES.due("lay 0 1; lay 1 0; lay 0 2; step 0 2 false; step 1 0 false; step 1 1 false; copy 1 2", "join 1 2", -9);
    }

    private static void cutPlaces() {
        String loops = "lay 0 0; lay 0 0; lay 0 0; on 0 true; lay 0 1; step 1 3 false";
        EDGES.due(loops, "cut 0 0 1 1", 1, "text 0 1", "1-2", "text 1 1", "0", "text 1 0", "0-0");
        EDGES.due(loops, "cut 0 1 2 1", 1, "text 0 1", "0-2", "text 1 1", "1");
        EDGES.due(loops, "cut 0 2 3 1", 1, "text 0 1", "0-1", "text 1 1", "2");
        EDGES.due(loops, "cut 0 0 3 2", 3, "text 0 1", "", "text 2 1", "0-1-2");
        EDGES.due(ROUND, "cut 0 0 3 1", 3, "text 0 0", "0", "text 1 0", "0-1-2-0");
        EDGES.due(ROUND + "; rotate 0 1", "cut 0 0 3 1", 3, "text 0 0", "1", "text 1 0", "1-2-0-1");
        EDGES.due(ROUND + "; step 0 4 true; begin 1 9", "cut 0 1 4 1", 3, "text 0 0", "0-0", "text 1 0", "0-1-2-0");
        // What the other one had is gone, and its BEGIN.
        EDGES.due(ROUND + "; copy 0 1; begin 2 5; step 2 7 false", "cut 0 0 3 2", 3, "text 2 0", "0-1-2-0", "text 1 1",
            "0-1-2");
    }

    private static void cutRefused() {
        String run = ROUND + "; step 0 4 false";
        EDGES.due(run, "cut 0 0 3 0", -9);
        EDGES.due(run, "cut 0 0 0 1", -9);
        EDGES.due(run, "cut 0 3 3 1", -9);
        EDGES.due(run, "cut 0 4 4 1", -9);
        EDGES.due(run, "cut 0 3 0 1", -9);
        EDGES.due(run, "cut 0 4 3 1", -9);
        EDGES.due(run, "cut 0 0 1 1", -9);
        EDGES.due(run, "cut 0 1 3 1", -9);
        EDGES.due(run, "cut 0 2 4 1", -9);
        EDGES.due(run, "cut 1 0 0 0", -9);
        EDGES.due(run, "cut 0 3 4 1", 1, "text 0 1", "0-1-2", "text 1 1", "4");
    }

    private static void turnRound() {
        EDGES.due(TOWN + "; begin 0 9", "turnRound 0", 9, "text 0 0", "9");
        EDGES.due(TOWN + "; step 0 0 false", "turnRound 0", 1, "stepAt 0 0", 1, "text 0 0", "1-0");
        EDGES.due(TOWN + "; step 0 0 false; turnRound 0", "turnRound 0", 0, "stepAt 0 0", 0, "text 0 0", "0-1");
        EDGES.due(ROUND + "; step 0 4 false", "turnRound 0", 0, "text 0 0", "0-0-2-1-0", "stepAt 0 0", 8, "stepAt 0 1", 5,
            "stepAt 0 2", 3, "stepAt 0 3", 1);
        EDGES.due(ROUND + "; copy 0 1", "turnRound 1", 0, "text 0 1", "0-1-2", "text 1 1", "2-1-0");
        EDGES.due(ROUND + "; oneWay true", "turnRound 0", -9);
        EDGES.due(ROUND + "; oneWay true", "turnRound 1", -9);
    }

    private static void turnTown() {
        EDGES.due("begin 0 9", "turnTown", 0, "text 0 0", "9");
        EDGES.due("lay 3 3", "turnTown", 1, "end 0 false", 3, "end 0 true", 3);
        EDGES.due("lay 3 4; begin 1 7", "turnTown", 1, "end 0 false", 4, "end 0 true", 3, "text 1 0", "7", "text 0 0", "0");
        EDGES.due(ROUND + "; back 0 false; begin 1 6; step 1 7 false", "turnTown", 8, "text 0 0", "2-1-0", "stepAt 0 0", 2,
            "stepAt 0 1", 0, "text 1 0", "5-6", "stepAt 1 0", 15);
        EDGES.due("lay 0 1; lay 1 2; oneWay true; on 0 true", "turnTown", 2, "text 0 0", "2-1-0", "text 0 1", "1-0",
            "rule 2", 1);
    }

    private static void rotate() {
        EDGES.due(TOWN + "; begin 0 9", "rotate 0 0", 9);
        EDGES.due(TOWN + "; begin 0 9", "rotate 0 30", 9, "text 0 0", "9");
        EDGES.due(ROUND, "rotate 0 0", 0, "text 0 1", "0-1-2");
        EDGES.due(ROUND, "rotate 0 1", 1, "text 0 1", "1-2-0");
        EDGES.due(ROUND, "rotate 0 2", 2, "text 0 1", "2-0-1");
        EDGES.due(ROUND, "rotate 0 3", 0, "text 0 1", "0-1-2");
        EDGES.due(ROUND, "rotate 0 4", 1, "text 0 1", "1-2-0");
        EDGES.due(ROUND, "rotate 0 29", 2, "text 0 1", "2-0-1");
        EDGES.due(ROUND, "rotate 0 30", 0, "text 0 1", "0-1-2");
        EDGES.due(ROUND + "; back 0 false", "rotate 0 0", -9);
        EDGES.due(ROUND + "; back 0 false", "rotate 0 1", -9);
        EDGES.due(ROUND + "; turnRound 0", "rotate 0 1", 2, "stepAt 0 2", 5, "text 0 0", "2-1-0-2");
    }

    private static void firstEdges() {
        String round = "lay 0 1; lay 1 2; lay 2 0";
        EDGES.due(round + "; begin 0 9", "first 0 1 true", 3, "text 0 1", "0-2-1", "cornerAt 0 0", 1);
        EDGES.due(round + "; begin 0 9", "first 0 1 false", 3, "text 0 1", "1-2-0", "cornerAt 0 0", 1);
        EDGES.due(round, "first 0 3 true", -9);
        EDGES.due(round + "; first 0 0 true", "first 0 3 true", -9);
        EDGES.due(round + "; first 0 0 true", "first 0 0 true", 3, "text 0 1", "0-1-2");
        EDGES.due(round + "; lay 5 5", "first 0 0 true", -9);
        EDGES.due("lay 0 1; lay 1 2", "first 0 1 true", -9);
        EDGES.due("lay 0 1; lay 1 2", "first 0 2 true", 2, "text 0 1", "1-0");
        EDGES.due("lay 0 1; lay 1 2; oneWay true", "first 0 2 true", -9);
        // A street that is the least, but from which the others could not all be walked.
        EDGES.due("lay 0 1; lay 0 2; lay 2 0", "first 0 0 true", 3, "text 0 1", "1-2-0");
        EDGES.due("lay 0 2; lay 2 0; lay 0 1", "first 0 0 false", 3, "text 0 1", "1-0-2");
    }

    private static void nextEdges() {
        String round = "lay 0 1; lay 1 2; lay 2 0; ";
        EDGES.due(round + "first 0 0 true", "next 0 false", -9);
        EDGES.due(round + "first 0 0 true", "next 0 true", 0, "text 0 1", "2-1-0");
        EDGES.due(round + "first 0 0 false", "next 0 true", -9);
        EDGES.due(round + "first 0 0 false", "next 0 false", 0, "text 0 1", "0-1-2");
        EDGES.due(round + "oneWay true; first 0 0 true", "next 0 true", -9);
        EDGES.due(round + "oneWay true; first 0 0 true", "next 0 false", -9);
        EDGES.due(round, "next 0 true", -9);
        EDGES.due(round + "first 0 0 true; back 0 false", "next 0 true", -9);
        EDGES.due(round + "first 0 0 true; lay 0 0", "next 0 true", -9);
        EDGES.due(round + "first 0 0 true", "next 1 true", -9);
        // The first unlike place is 0, one inside, and the last but one.
        EDGES.due("lay 0 0; lay 0 0; lay 0 0; first 0 0 true", "next 0 true", 1, "text 0 1", "0-2-1");
        EDGES.due("lay 0 0; lay 0 0; lay 0 0; first 0 0 true; next 0 true", "next 0 true", 0, "text 0 1", "1-0-2");
        EDGES.due("lay 0 0; lay 0 0; lay 0 0; first 0 0 false", "next 0 false", 1, "text 0 1", "2-0-1");
        EDGES.due("lay 0 0; lay 0 0; lay 0 0; first 0 0 false; next 0 false", "next 0 false", 0, "text 0 1", "1-2-0");
        // A WHOLE walk that was not made by first().
        EDGES.due("lay 0 0; lay 0 0; lay 0 0; step 1 1 false; step 1 0 false; step 1 2 false", "next 1 true", 1, "text 1 1",
            "1-2-0");
        EDGES.due("lay 0 0; lay 0 0; lay 0 0; step 1 1 false; step 1 0 false; step 1 2 false", "next 1 false", 0, "text 1 1",
            "0-2-1");
    }

    private static void copy() {
        EDGES.due(TOWN, "copy 0 1", 0);
        EDGES.due(TOWN + "; begin 0 9", "copy 0 1", 0, "text 1 0", "9", "text 0 0", "9");
        EDGES.due(ROUND + "; begin 1 9", "copy 1 0", 0, "text 0 0", "9");
        EDGES.due(ROUND, "copy 0 2", 3, "text 2 0", "0-1-2-0", "text 0 0", "0-1-2-0", "same 0 2", true);
        for (int walk = 0; walk <= 2; walk++) {
            EDGES.due(ROUND, "copy " + walk + " " + walk, -9);
        }
    }

    // Each street is in it: none can be walked, spliced in or closed, but all can go.
    private static void wholeWalk(String rule) {
        String run = "lay 0 1; lay 1 1; lay 1 2; lay 2 0; " + rule + "; on 0 true; step 1 0 false; step 1 1 false; "
            + "begin 2 1; step 2 1 false";
        EDGES.due(run, "is 0 true", true);
        EDGES.due(run, "is 0 false", true);
        for (int street = 0; street <= 3; street++) {
            EDGES.due(run, "step 0 " + street + " false", -9);
            EDGES.due(run, "step 0 " + street + " true", -9);
            EDGES.due(run, "close " + street, -9);
            EDGES.due(run, "find 0 " + street, street);
            EDGES.due(run + "; cursor 0 0", "cursorAdd " + street, -9);
            EDGES.due(run + "; cursor 0 1", "cursorAdd " + street, -9);
            EDGES.due(run + "; cursor 0 4", "cursorAdd " + street, -9);
        }
        EDGES.due(run, "on 0 true", 0);
        EDGES.due(run, "on 0 false", 0);
        EDGES.due(run, "complete 0 true", 0);
        EDGES.due(run, "complete 0 false", 0);
        EDGES.due(run, "splice 0 2 1", -9);
        EDGES.due(run, "join 0 2", -9);
        EDGES.due(run, "cut 0 0 4 1", 4, "is 0 true", false, "is 1 true", true, "text 0 0", "0");
        EDGES.due(run, "cut 0 1 2 1", 1, "is 0 true", false, "text 0 1", "0-2-3");
        EDGES.due(run, "rotate 0 4", 0, "is 0 true", true, "text 0 1", "0-1-2-3");
        EDGES.due(run, "copy 0 1", 4, "is 1 true", true, "is 0 true", true);
        EDGES.due(run, "back 0 true", 0, "is 0 true", false, "complete 0 true", 1, "text 0 1", "1-2-3-0", "is 0 true", true);
        EDGES.due(run, "back 0 false", 6, "is 0 true", false, "complete 0 true", 1, "text 0 1", "0-1-2-3");
        EDGES.due(run, "lay 0 0", 4, "is 0 true", false, "on 0 true", 1, "is 0 true", true, "text 0 1", "0-1-2-3-4");
        EDGES.due(run, "turnTown", 4, "is 0 true", true, "text 0 1", "3-2-1-0");
        EDGES.due(run, "next 0 false", -9);
        EDGES.due(run, "begin 0 0", 4, "is 0 true", false);
    }

    private static void wholeWalkOfAllLoops() {
        String run = "layRing 1 0; ".repeat(30) + "on 0 true";
        EDGES.due(run, "splice 0 1 30", -9);
        EDGES.due(run, "splice 0 1 31", "throws.IndexOutOfBoundsException");
        EDGES.due(run, "splice 1 0 0", 30, "length 0", 0, "length 1", 30);
        EDGES.due(run, "join 1 0", 0, "length 0", 0, "length 1", 30);
        EDGES.due(run, "cut 0 0 29 1", 29, "text 0 1", "29", "length 1", 29);
        EDGES.due(run + "; cut 0 0 29 1", "splice 0 1 0", 30, "stepAt 0 29", 58, "stepAt 0 0", 0);
        EDGES.due(run + "; cut 0 0 29 1", "splice 0 1 1", 30, "stepAt 0 0", 58, "stepAt 0 29", 56);
        EDGES.due(run + "; cut 0 0 29 1", "splice 1 0 29", 30, "stepAt 1 29", 58);
        EDGES.due(run + "; cut 0 0 29 1", "join 0 1", 0, "stepAt 0 0", 0, "stepAt 0 29", 58);
        EDGES.due(run, "rotate 0 29", 0, "stepAt 0 0", 58, "stepAt 0 1", 0);
        EDGES.due(run, "turnRound 0", 0, "stepAt 0 0", 58, "stepAt 0 29", 0);
    }
}
