/** The acts by which the CURSOR is LOST, those that leave it as it is, and those that end it. */
public final class LostEdgesTest {
    private static final Edges EDGES = new Edges(new Check());
    // Walk 0 is the round 0-1-2-0, walk 1 the round 1-3-1, walk 2 has no step; 5 to 7 are in no walk.
    private static final String TOWN = "lay 0 1; lay 1 2; lay 2 0; lay 1 3; lay 3 1; lay 0 4; lay 1 1; lay 4 0; "
        + "step 0 0 false; step 0 1 false; step 0 2 false; begin 1 1; step 1 3 false; step 1 4 false; ";
    // The CURSOR stands at place 2 of walk 0 and has told step 2; or at place 1 of walk 1, with step 6.
    private static final String ON_0 = TOWN + "cursor 0 1; cursorGo true";
    private static final String ON_1 = TOWN + "cursor 1 0; cursorGo true";
    private static final String ON_2 = TOWN + "cursor 2 0";
    private static final Object[] IS_LOST = {"cursorPlace true", -2, "cursorPlace false", -2, "cursorCan true", false,
        "cursorCan false", false, "cursorGo true", -9, "cursorGo false", -9, "cursorSet 0", -9, "cursorSet 1", -9,
        "cursorSet 3", -9, "cursorAdd 5", -9, "cursorAdd 6", -9, "cursorRemove", -9, "cursorPlace true", -2};

    public static void main(String[] args) {
        lostByOwnWalk();
        lostByBothWalks();
        lostWhereNothingIsOther();
        lostByOneStep();
        lostByFirstAndCopy();
        keptByActsOnOtherWalks();
        keptByActsOnOwnWalk();
        keptByActsOnTheTown();
        keptByTurns();
        keptWithoutSteps();
        keptByRefusals();
        keptByExceptions();
        keptByItsOwnActs();
        endedByWordsAndClear();
        lostStaysSo();
        standsAgain();
        EDGES.end();
    }

    private static void lost(String run, String call, Object want) {
        EDGES.due(run, call, want, IS_LOST);
    }

    // Place and TOLD step are as before, whether the walk has other steps or not.
    private static void kept0(String run, String call, Object want) {
        EDGES.due(run, call, want, "cursorPlace true", 2, "cursorPlace false", 1, "cursorCan true", true, "cursorCan false",
            true, "cursorSet 1", 2, "cursorGo false", 2, "cursorGo false", 0);
    }

    private static void kept1(String run, String call, Object want) {
        EDGES.due(run, call, want, "cursorPlace true", 1, "cursorPlace false", 0, "cursorCan true", true, "cursorCan false",
            true, "cursorSet 3", 6, "cursorGo true", 8);
    }

    private static void kept2(String run, String call, Object want) {
        EDGES.due(run, call, want, "cursorPlace true", 0, "cursorPlace false", -1, "cursorCan true", false,
            "cursorCan false", false);
    }

    private static void lostByOwnWalk() {
        lost(ON_0, "begin 0 0", 3);
        lost(ON_0, "begin 0 9", 3);
        lost(ON_0, "step 0 5 false", 4);
        lost(ON_0, "step 0 5 true", 4);
        lost(ON_0, "back 0 true", 0);
        lost(ON_0, "back 0 false", 4);
        lost(ON_0, "on 0 true", 2);
        lost(ON_0, "complete 0 false", 5);
        lost(ON_0, "rotate 0 1", 1);
        lost(ON_0, "first 0 0 true", 8);
        lost(ON_0, "copy 1 0", 2);
        lost(ON_1, "begin 1 1", 2);
        lost(ON_1, "step 1 6 false", 1);
        lost(ON_1, "on 1 true", 4);
        lost(ON_1, "rotate 1 1", 3);
        lost(ON_1, "first 1 1 false", 8);
        lost(ON_1, "copy 0 1", 3);
        lost(ON_2, "step 2 5 false", 4);
        lost(ON_2, "step 2 5 true", 4);
        lost(ON_2, "on 2 true", 5);
        lost(ON_2, "complete 2 true", 8);
        String whole = "lay 0 0; lay 0 0; lay 0 0; on 0 true; lay 5 5; close 3; cursor 0 2; cursorGo true; ";
        EDGES.due(whole, "next 0 true", 1, "cursorPlace true", -2, "cursorSet 2", -9, "cursorRemove", -9);
        EDGES.due(whole + "first 1 0 false", "cursorRemove", 4);
    }

    private static void lostByBothWalks() {
        lost(ON_0, "splice 0 1 1", 5);
        lost(ON_1, "splice 0 1 1", 5);
        lost(ON_0, "join 0 1", 1);
        lost(ON_1, "join 0 1", 1);
        lost(ON_0, "join 1 0", 0);
        lost(ON_1, "join 1 0", 0);
        lost(ON_0, "cut 0 0 3 1", 3);
        lost(ON_1, "cut 0 0 3 1", 3);
        lost(ON_2, "cut 0 0 3 2", 3);
        lost(ON_2 + "; begin 2 1; cursor 2 0", "splice 2 1 0", 2);
        lost(ON_2, "join 2 0", 0);
        // At a place ahead of which nothing changes, too.
        lost(TOWN + "cursor 0 0", "splice 0 1 1", 5);
        lost(TOWN + "cursor 0 3; step 0 7 true; cursor 0 0", "cut 0 1 4 2", 3);
    }

    private static void lostWhereNothingIsOther() {
        lost(ON_0, "rotate 0 3", 0);
        lost(ON_0, "rotate 0 30", 0);
        lost(ON_0 + "; first 2 0 true; copy 0 2", "copy 2 0", 3);
        String whole = "lay 0 0; on 0 true; cursor 0 0; cursorGo true";
        String[] lostBy = {"rotate 0 1", "rotate 0 30", "first 0 0 true", "first 0 0 false"};
        for (String call : lostBy) {
            EDGES.due(whole, call, call.startsWith("first") ? 1 : 0, "cursorPlace true", -2, "cursorSet 0", -9,
                "cursorCan false", false);
        }
        EDGES.due(whole + "; copy 0 1", "copy 1 0", 1, "cursorPlace true", -2);
        EDGES.due(whole, "back 0 false", 0, "step 0 0 false", 0, "cursorPlace true", -2);
        EDGES.due(whole, "cut 0 0 1 1", 1, "splice 0 1 0", 1, "cursorPlace true", -2);
    }

    // One step that goes or comes is enough.
    private static void lostByOneStep() {
        String one = TOWN + "begin 2 0; step 2 0 false; cursor 2 1; cursorGo false";
        lost(one, "begin 2 0", 1);
        lost(one, "back 2 true", 0);
        lost(one, "back 2 false", 0);
        lost(one, "copy 0 2", 3);
        lost(one + "; begin 0 0", "copy 0 2", 0);
        lost(TOWN + "begin 2 1; step 2 6 false; cursor 2 0; cursorGo true", "rotate 2 1", 1);
        String allButOne = "lay 0 1; lay 1 0; lay 0 0; on 0 true; back 0 false; cursor 0 1; cursorGo true";
        EDGES.due(allButOne, "on 0 true", 1, "cursorPlace true", -2, "cursorSet 1", -9, "cursorGo false", -9);
        EDGES.due(allButOne, "complete 0 false", 1, "cursorPlace true", -2, "cursorSet 1", -9, "cursorGo false", -9);
        EDGES.due("lay 0 0; cursor 0 0", "on 0 true", 1, "cursorPlace true", -2);
        EDGES.due("lay 0 0; cursor 0 0", "complete 0 true", 1, "cursorPlace true", -2);
        EDGES.due("lay 0 0; step 1 0 false; cursor 0 0", "splice 0 1 0", 1, "cursorPlace true", -2);
        EDGES.due("lay 0 0; step 1 0 false; cursor 1 0", "join 0 1", 0, "cursorPlace true", -2);
        EDGES.due("lay 0 0; step 1 0 false; cursor 1 1", "cut 1 0 1 0", 1, "cursorPlace true", -2);
    }

    private static void lostByFirstAndCopy() {
        // Steps before, none then; none before, steps then.
        lost(ON_0, "copy 2 0", 0);
        lost(ON_2, "copy 0 2", 3);
        lost(ON_0 + "; back 1 false; copy 1 0; cursor 0 0", "copy 2 0", 0);
        lost(ON_0 + "; back 1 false; cursor 2 0", "copy 1 2", 1);
        lost(ON_2, "first 2 0 true", 8);
        EDGES.due("lay 0 0; cursor 2 0", "first 2 0 true", 1, "cursorPlace true", -2);
        EDGES.due("lay 0 0; step 2 0 false; cursor 2 0; cursorGo true", "first 2 0 true", 1, "cursorPlace true", -2);
    }

    private static void keptByActsOnOtherWalks() {
        kept0(ON_0, "begin 1 1", 2);
        kept0(ON_0, "begin 2 1", 0);
        kept0(ON_0, "step 1 6 false", 1);
        kept0(ON_0, "step 2 0 true", 1);
        kept0(ON_0, "back 1 true", 6);
        kept0(ON_0, "on 2 false", 8);
        kept0(ON_0, "complete 2 true", 8);
        kept0(ON_0 + "; begin 2 1", "splice 2 1 0", 2);
        kept0(ON_0 + "; begin 2 1", "join 2 1", 0);
        kept0(ON_0, "cut 1 0 2 2", 2);
        kept0(ON_0, "turnRound 1", 1);
        kept0(ON_0, "rotate 1 1", 3);
        kept0(ON_0, "first 1 0 true", 8);
        kept0(ON_0 + "; first 2 0 true", "next 2 true", 6);
        kept0(ON_0, "copy 0 1", 3);
        kept0(ON_0, "copy 1 2", 2);
        kept0(ON_0, "copy 2 1", 0);
        kept1(ON_1, "begin 0 1", 3);
        kept1(ON_1, "back 0 true", 0);
        kept1(ON_1, "step 0 5 false", 4);
        kept1(ON_1, "rotate 0 1", 1);
        kept1(ON_1, "cut 0 0 3 2", 3);
        kept1(ON_1, "join 2 0", 0);
        kept1(ON_1, "copy 1 0", 2);
        kept1(ON_1, "first 0 0 true", 8);
        kept2(ON_2, "splice 0 1 1", 5);
        kept2(ON_2, "cut 0 0 3 1", 3);
        kept2(ON_2, "begin 0 0", 3);
        kept2(ON_2, "copy 0 1", 3);
    }

    private static void keptByActsOnOwnWalk() {
        kept0(ON_0, "rotate 0 0", 0);
        kept1(ON_1, "rotate 1 0", 1);
        String ended = TOWN + "begin 0 0; on 0 true; cursor 0 1; cursorGo true";
        EDGES.due(ended, "on 0 true", 0, "cursorPlace true", 2, "cursorRemove", -9, "cursorSet 1", 2);
        EDGES.due(TOWN + "first 0 0 true; cursor 0 1; cursorGo true", "on 0 false", 0, "cursorPlace true", 2, "cursorSet 3",
            6);
        EDGES.due(TOWN + "first 0 0 true; cursor 0 1; cursorGo true", "complete 0 false", 0, "cursorPlace true", 2,
            "cursorSet 3", 6);
    }

    private static void keptByActsOnTheTown() {
        kept0(ON_0, "lay 0 1", 8);
        kept0(ON_0, "layRing 10 1", 18);
        kept0(ON_0, "close 5", 7);
        kept0(ON_0, "close 7", 7);
        kept0(ON_0, "oneWay true", 1);
        kept0(ON_0 + "; oneWay true", "oneWay false", 1);
        kept0(ON_0, "oneWay false", 0);
        kept0(ON_0, "knock", 1);
        // A street ahead of the TOLD one goes: the TOLD step has another number, but is that at its place.
        String behind = "lay 5 5; lay 0 1; lay 1 2; step 0 1 false; step 0 2 false; cursor 0 0; cursorGo true; ";
        EDGES.due(behind, "close 0", 2, "cursorPlace true", 1, "cursorSet 0", 0, "cursorGo true", 2);
        EDGES.due(behind, "close 0", 2, "cursorRemove", 0, "text 0 1", "1");
    }

    private static void keptByTurns() {
        // The TOLD step is that at the same place as before, 1, where another stands then.
        EDGES.due(TOWN + "step 0 5 false; cursor 0 1; cursorGo true", "turnRound 0", 4, "text 0 1", "5-2-1-0",
            "cursorPlace true", 2, "cursorPlace false", 1, "cursorSet 1", -9, "cursorSet 2", 5, "cursorGo true", 3);
        EDGES.due(TOWN + "step 0 5 false; cursor 0 1; cursorGo true", "turnTown", 8, "text 0 1", "5-2-1-0",
            "cursorPlace true", 2, "cursorPlace false", 1, "cursorSet 1", -9, "cursorSet 2", 4, "cursorGo true", 2);
        // At PLACE 0 and at LENGTH it stays there.
        EDGES.due(TOWN + "cursor 0 0", "turnRound 0", 0, "cursorPlace true", 0, "cursorCan false", false, "cursorGo true", 5);
        EDGES.due(TOWN + "cursor 0 3", "turnRound 0", 0, "cursorPlace true", 3, "cursorCan true", false, "cursorGo false", 1);
        EDGES.due(TOWN + "cursor 0 0", "turnTown", 8, "cursorPlace true", 0, "cursorCan false", false, "cursorGo true", 4);
        EDGES.due(TOWN + "cursor 0 3", "turnTown", 8, "cursorPlace true", 3, "cursorCan true", false, "cursorGo false", 0);
        // No step is TOLD by turning.
        EDGES.due(TOWN + "cursor 0 1", "turnRound 0", 0, "cursorRemove", -9, "cursorSet 0", -9, "cursorSet 1", -9);
        EDGES.due(TOWN + "cursor 0 1", "turnTown", 8, "cursorRemove", -9, "cursorSet 0", -9, "cursorSet 1", -9);
        // The step that stands at the TOLD place then goes, as the first one or as the last.
        EDGES.due(TOWN + "cursor 0 0; cursorGo true", "turnRound 0", 0, "cursorRemove", 5, "text 0 0", "2-1-0",
            "cursorPlace true", 0);
        EDGES.due(TOWN + "cursor 0 3; cursorGo false", "turnTown", 8, "cursorRemove", 0, "text 0 0", "0-2-1",
            "cursorPlace true", 2);
    }

    private static void keptWithoutSteps() {
        kept2(ON_2, "begin 2 0", 0);
        kept2(ON_2, "begin 2 9", 0);
        kept2(ON_2, "turnRound 2", 0);
        kept2(ON_2, "rotate 2 0", 0);
        kept2(ON_2, "rotate 2 1", 0);
        kept2(ON_2, "rotate 2 30", 0);
        kept2(ON_2 + "; begin 2 9", "on 2 true", 0);
        kept2(ON_2 + "; begin 1 5", "copy 1 2", 0);
        EDGES.due("cursor 0 0", "complete 0 true", 0, "cursorPlace true", 0);
        EDGES.due("cursor 0 0", "first 0 9 true", 0, "cursorPlace true", 0);
        EDGES.due("cursor 0 0", "first 0 0 false", 0, "cursorPlace true", 0);
        EDGES.due("cursor 0 0", "copy 1 0", 0, "cursorPlace true", 0);
        EDGES.due("cursor 0 0", "turnTown", 0, "cursorPlace true", 0);
    }

    private static void keptByRefusals() {
        for (String call : new String[] {"close 0", "close 3", "words 5 3", "words 4 4", "step 0 0 false", "step 0 3 true",
            "back 2 true", "back 2 false", "splice 0 0 1", "splice 0 1 0", "splice 0 2 0", "splice 1 0 0", "join 0 0",
            "join 0 2", "cut 0 0 3 0", "cut 0 1 1 1", "cut 0 2 1 1", "cut 0 0 2 1", "first 0 9 true", "first 0 5 false",
            "next 0 true", "next 0 false", "copy 0 0", "cursorAdd 3", "cursorAdd 0", "cursorSet 0", "cursorSet 3",
            "cursorRemove"}) {
            kept0(ON_0, call, -9);
        }
        kept0(ON_0 + "; layRing 10 0; layRing 10 0", "layRing 3 1", -9);
        kept0(ON_0 + "; layRing 10 0; layRing 10 0; lay 9 9; lay 9 9", "lay 9 9", -9);
        kept0(ON_0 + "; oneWay true", "turnRound 0", -9);
        kept0(ON_0 + "; turnRound 1", "oneWay true", -9);
        EDGES.due(TOWN + "back 0 false; cursor 0 1; cursorGo true", "rotate 0 1", -9, "cursorPlace true", 2, "cursorSet 1", 2);
        EDGES.due(TOWN + "lay 5 5; cursor 0 1; cursorGo true", "complete 0 true", -9, "cursorPlace true", 2, "cursorSet 1", 2);
        EDGES.due(TOWN + "first 0 0 true; cursor 0 0; cursorGo true", "next 0 false", -9, "cursorPlace true", 1,
            "cursorSet 0", 0);
        EDGES.due(TOWN + "cursor 0 3; cursorGo false; cursorGo true", "cursorGo true", -9, "cursorPlace true", 3, "cursorSet 2",
            4);
        EDGES.due(TOWN + "cursor 0 1; cursorGo false", "cursorGo false", -9, "cursorPlace true", 0, "cursorSet 0", 0);
    }

    private static void keptByExceptions() {
        for (String call : new String[] {"lay 10 0", "close 8", "begin 0 10", "begin 3 0", "step 0 8 true", "step 3 0 true",
            "back 3 true", "on 3 true", "complete -1 true", "splice 0 1 4", "splice 0 3 0", "join 0 3", "cut 0 0 4 1",
            "cut 0 0 3 3", "turnRound 3", "rotate 3 1", "first 0 10 true", "next 3 true", "copy 0 3", "copy 3 0",
            "cursor 0 4", "cursor 0 -1", "cursor 3 0", "cursor 2 1", "cursorSet 8", "cursorAdd 8", "cursorSet -1",
            "cursorAdd -1"}) {
            kept0(ON_0, call, "throws.IndexOutOfBoundsException");
        }
        for (String call : new String[] {"layRing 0 0", "layRing 1 10", "words 1 1", "words 2 5", "rotate 0 31",
            "rotate 0 -1"}) {
            kept0(ON_0, call, "throws.IllegalArgumentException");
        }
    }

    private static void keptByItsOwnActs() {
        EDGES.due(TOWN + "cursor 0 0", "cursorAdd 7", 1, "cursorPlace true", 1, "cursorGo false", 14);
        EDGES.due(TOWN + "cursor 0 3", "cursorAdd 5", 4, "cursorPlace true", 4, "cursorGo false", 10);
        EDGES.due(TOWN + "cursor 0 1", "cursorAdd 6", 2, "cursorPlace true", 2, "cursorGo false", 12, "cursorRemove", 12,
            "cursorPlace true", 1, "cursorGo true", 2);
        EDGES.due(ON_0, "cursorGo true", 4, "cursorPlace true", 3, "cursorRemove", 4, "cursorPlace true", 2, "cursorGo false",
            2);
    }

    private static void endedByWordsAndClear() {
        for (String run : new String[] {ON_0, ON_1, ON_2, ON_0 + "; back 0 true"}) {
            EDGES.due(run, "words 2 1", 2, "cursorPlace true", -2, "cursorPlace false", -2, "cursorCan true", false,
                "cursorCan false", false, "cursorGo true", -9, "cursorSet 0", -9, "cursorAdd 0", -9, "cursorRemove", -9,
                "step 0 0 false", 0, "cursorGo true", -9, "cursorPlace true", -2);
            EDGES.due(run, "clear", 8, "lay 0 0", 0, "cursorPlace true", -2, "cursorPlace false", -2, "cursorCan true", false,
                "cursorCan false", false, "cursorGo true", -9, "cursorSet 0", -9, "cursorAdd 0", -9, "cursorRemove", -9,
                "step 0 0 false", 0, "cursorGo true", -9, "cursorPlace true", -2);
        }
        EDGES.due("cursor 0 0", "words 2 1", 2, "cursorPlace true", -2);
        EDGES.due("cursor 0 0", "clear", 0, "cursorPlace true", -2);
        EDGES.due("cursor 2 0; clear", "cursor 2 0", 0, "cursorPlace true", 0);
    }

    private static void lostStaysSo() {
        String run = ON_0 + "; back 0 false";
        lost(run, "step 0 2 false", 0);
        lost(run, "turnRound 0", 2);
        lost(run, "turnTown", 8);
        lost(run, "close 7", 7);
        lost(run, "lay 0 1", 8);
        lost(run, "oneWay true", 1);
        lost(run, "begin 0 0", 2);
        lost(run, "rotate 1 1", 3);
        lost(run + "; begin 0 0", "begin 0 0", 0);
        lost(run, "copy 1 0", 2);
        lost(run, "cursorGo true", -9);
        lost(run, "cursorRemove", -9);
        lost(run, "cursor 0 4", "throws.IndexOutOfBoundsException");
    }

    private static void standsAgain() {
        String run = ON_0 + "; back 0 false";
        EDGES.due(run, "cursor 0 2", 2, "cursorPlace true", 2, "cursorCan true", false, "cursorCan false", true,
            "cursorSet 1", -9, "cursorRemove", -9, "cursorGo false", 2);
        EDGES.due(run, "cursor 0 0", 0, "cursorPlace true", 0, "cursorGo true", 0);
        EDGES.due(run, "cursor 1 0", 1, "cursorPlace true", 0, "cursorGo true", 6);
        // There is at most one: on walk 1 it is not LOST by acts on walk 0, and none is left there.
        EDGES.due(ON_0 + "; cursor 1 1", "begin 0 0", 3, "cursorPlace true", 1, "cursorGo false", 6);
        EDGES.due(ON_0 + "; cursor 1 1", "begin 1 0", 2, "cursorPlace true", -2, "cursorGo true", -9);
    }
}
