/** The CURSOR at its edges: none, PLACE 0 and PLACE = LENGTH, with and without a TOLD step, on short walks. */
public final class CursorEdgesTest {
    private static final Edges EDGES = new Edges(new Check());
    // Corners of walk 0: 0-1-1-2; 3 is a twin of 0, 4 one of 2 the other way, 5 a loop at 1, 6 one at 0, 7 one at 2.
    private static final String ROW = "lay 0 1; lay 1 1; lay 1 2; lay 0 1; lay 2 1; lay 1 1; lay 0 0; lay 2 2; "
        + "step 0 0 false; step 0 1 false; step 0 2 false; ";

    public static void main(String[] args) {
        none();
        cursorAtEachPlace();
        goAtEachPlace();
        goOnShortWalks();
        goTurnsBack();
        setNeedsTold();
        setTwins();
        setOneWay();
        setLoops();
        addAtPlaceZero();
        addAtLength();
        addInside();
        addOnShortWalks();
        addOneWay();
        addEndsTold();
        addToThirty();
        removeNeedsTold();
        removeFirst();
        removeLast();
        removeOnly();
        removeInside();
        removePlaces();
        EDGES.end();
    }

    private static void none() {
        for (String run : new String[] {"lay 0 0", "lay 0 0; step 0 0 false", "lay 0 0; cursor 0 0; clear; lay 0 0"}) {
            for (String call : new String[] {"cursorGo true", "cursorGo false", "cursorSet 0", "cursorAdd 0",
                "cursorRemove"}) {
                EDGES.due(run, call, -9);
            }
            EDGES.due(run, "cursorPlace true", -2);
            EDGES.due(run, "cursorPlace false", -2);
            EDGES.due(run, "cursorCan true", false);
            EDGES.due(run, "cursorCan false", false);
        }
    }

    private static void cursorAtEachPlace() {
        int[] corners = {0, 1, 1, 2};
        for (int at = 0; at <= 3; at++) {
            EDGES.due(ROW, "cursor 0 " + at, corners[at], "cursorPlace true", at, "cursorPlace false", at - 1,
                "cursorCan true", at < 3, "cursorCan false", at > 0);
        }
        EDGES.due(ROW, "cursor 0 4", "throws.IndexOutOfBoundsException");
        EDGES.due(ROW, "cursor 0 -1", "throws.IndexOutOfBoundsException");
        EDGES.due(ROW, "cursor 1 0", 0, "cursorPlace true", 0, "cursorPlace false", -1, "cursorCan true", false,
            "cursorCan false", false);
        EDGES.due(ROW, "cursor 1 1", "throws.IndexOutOfBoundsException");
        EDGES.due(ROW + "begin 2 9", "cursor 2 0", 9);
        EDGES.due(ROW + "cursor 0 2; cursorGo true", "cursor 0 3", 2, "cursorRemove", -9, "cursorSet 2", -9);
        EDGES.due(ROW + "cursor 0 2; cursorGo true", "cursor 1 0", 0, "cursorRemove", -9, "cursorPlace true", 0);
    }

    private static void goAtEachPlace() {
        int[] steps = {0, 2, 4};
        for (int at = 0; at <= 3; at++) {
            String run = ROW + "cursor 0 " + at;
            if (at < 3) {
                EDGES.due(run, "cursorGo true", steps[at], "cursorPlace true", at + 1, "cursorPlace false", at,
                    "cursorCan true", at < 2, "cursorCan false", true);
            } else {
                EDGES.due(run, "cursorGo true", -9, "cursorPlace true", 3);
            }
            if (at > 0) {
                EDGES.due(run, "cursorGo false", steps[at - 1], "cursorPlace true", at - 1, "cursorPlace false", at - 2,
                    "cursorCan true", true, "cursorCan false", at > 1);
            } else {
                EDGES.due(run, "cursorGo false", -9, "cursorPlace true", 0);
            }
        }
    }

    private static void goOnShortWalks() {
        EDGES.due("cursor 0 0", "cursorGo true", -9);
        EDGES.due("cursor 0 0", "cursorGo false", -9);
        String one = "lay 1 0; step 1 0 false; ";
        EDGES.due(one + "cursor 1 0", "cursorGo false", -9);
        EDGES.due(one + "cursor 1 0", "cursorGo true", 1, "cursorPlace true", 1, "cursorCan true", false, "cursorCan false",
            true);
        EDGES.due(one + "cursor 1 1", "cursorGo true", -9);
        EDGES.due(one + "cursor 1 1", "cursorGo false", 1, "cursorPlace true", 0, "cursorCan true", true, "cursorCan false",
            false);
    }

    private static void goTurnsBack() {
        // The same step is told by going on and by going back over it.
        EDGES.due(ROW + "cursor 0 1; cursorGo true", "cursorGo false", 2, "cursorPlace true", 1, "cursorRemove", 2,
            "cursorPlace true", 1, "text 0 1", "0-2");
        EDGES.due(ROW + "cursor 0 2; cursorGo false", "cursorGo true", 2, "cursorPlace true", 2, "cursorRemove", 2,
            "cursorPlace true", 1, "text 0 1", "0-2");
    }

    private static void setNeedsTold() {
        EDGES.due(ROW + "cursor 0 1", "cursorSet 0", -9);
        EDGES.due(ROW + "cursor 0 1", "cursorSet 1", -9);
        EDGES.due(ROW + "cursor 0 0", "cursorSet 0", -9);
        EDGES.due(ROW + "cursor 0 3", "cursorSet 2", -9);
        EDGES.due(ROW + "cursor 1 0", "cursorSet 2", -9);
        EDGES.due(ROW + "cursor 0 3; cursorGo false; cursorRemove", "cursorSet 2", -9);
        EDGES.due(ROW + "cursor 0 0; cursorGo true; back 0 false", "cursorSet 0", -9);
    }

    private static void setTwins() {
        String first = ROW + "cursor 0 0; cursorGo true";
        EDGES.due(first, "cursorSet 0", 0, "text 0 1", "0-1-2");
        EDGES.due(first, "cursorSet 3", 0, "text 0 1", "3-1-2", "stepAt 0 0", 6, "cursorSet 0", 6, "cursorPlace true", 1);
        EDGES.due(first, "cursorSet 4", -9);
        EDGES.due(first, "cursorSet 2", -9);
        EDGES.due(first, "cursorSet 6", -9);
        EDGES.due(first, "cursorSet 1", -9);
        String last = ROW + "cursor 0 3; cursorGo false";
        EDGES.due(last, "cursorSet 4", 4, "stepAt 0 2", 9, "text 0 0", "0-1-1-2", "cursorPlace true", 2, "cursorSet 4", 9);
        EDGES.due(last + "; cursorSet 4", "cursorSet 2", 9, "stepAt 0 2", 4);
        EDGES.due(last, "cursorSet 7", -9);
        EDGES.due(last, "cursorSet 0", -9);
        // It was walked BACKWARD: a street is FORWARD then if it goes so, otherwise BACKWARD.
        String turned = ROW + "turnRound 0; cursor 0 0; cursorGo true";
        EDGES.due(turned, "cursorSet 4", 5, "stepAt 0 0", 8);
        EDGES.due(turned, "cursorSet 2", 5, "stepAt 0 0", 5);
        // It is elsewhere in the walk, at its end or at its start, though it goes so.
        String twins = "lay 0 1; lay 1 0; lay 0 1; step 0 0 false; step 0 1 false; step 0 2 false; ";
        EDGES.due(twins + "cursor 0 0; cursorGo true", "cursorSet 2", -9);
        EDGES.due(twins + "cursor 0 3; cursorGo false", "cursorSet 0", -9);
        EDGES.due(twins + "cursor 0 1; cursorGo true", "cursorSet 0", -9);
        // In another walk it may be.
        EDGES.due(first + "; step 1 3 false", "cursorSet 3", 0);
    }

    private static void setOneWay() {
        String last = ROW + "oneWay true; cursor 0 3; cursorGo false";
        EDGES.due(last, "cursorSet 4", -9);
        EDGES.due(last, "cursorSet 2", 4);
        EDGES.due(last + "; oneWay false", "cursorSet 4", 4, "stepAt 0 2", 9);
        EDGES.due(ROW + "oneWay true; cursor 0 0; cursorGo true", "cursorSet 3", 0, "stepAt 0 0", 6);
        EDGES.due(ROW + "oneWay true; cursor 0 1; cursorGo true", "cursorSet 5", 2, "stepAt 0 1", 10);
    }

    private static void setLoops() {
        String loop = ROW + "cursor 0 1; cursorGo true";
        EDGES.due(loop, "cursorSet 1", 2);
        EDGES.due(loop, "cursorSet 5", 2, "stepAt 0 1", 10, "cursorRemove", 10, "text 0 1", "0-2");
        EDGES.due(loop, "cursorSet 6", -9);
        EDGES.due(loop, "cursorSet 7", -9);
        EDGES.due(loop, "cursorSet 0", -9);
        EDGES.due(loop, "cursorSet 3", -9);
        EDGES.due(loop, "cursorSet 4", -9);
    }

    private static void addAtPlaceZero() {
        String run = ROW + "lay 5 0; lay 0 5; lay 5 5; cursor 0 0";
        EDGES.due(run, "cursorAdd 8", 1, "text 0 0", "5-0-1-1-2", "stepAt 0 0", 16, "cursorPlace true", 1);
        EDGES.due(run, "cursorAdd 9", 1, "text 0 0", "5-0-1-1-2", "stepAt 0 0", 19, "cursorPlace true", 1);
        EDGES.due(run, "cursorAdd 6", 1, "text 0 0", "0-0-1-1-2", "stepAt 0 0", 12, "cursorPlace true", 1);
        EDGES.due(run, "cursorAdd 3", 1, "text 0 0", "1-0-1-1-2", "stepAt 0 0", 7);
        EDGES.due(run, "cursorAdd 0", -9);
        EDGES.due(run, "cursorAdd 7", -9);
        EDGES.due(run, "cursorAdd 10", -9);
        EDGES.due(run, "cursorAdd 4", -9);
        EDGES.due(run, "cursorAdd 5", -9);
    }

    private static void addAtLength() {
        String run = ROW + "lay 2 5; lay 5 2; cursor 0 3";
        EDGES.due(run, "cursorAdd 8", 4, "text 0 0", "0-1-1-2-5", "stepAt 0 3", 16, "cursorPlace true", 4);
        EDGES.due(run, "cursorAdd 9", 4, "text 0 0", "0-1-1-2-5", "stepAt 0 3", 19, "cursorPlace true", 4);
        EDGES.due(run, "cursorAdd 4", 4, "text 0 0", "0-1-1-2-1", "stepAt 0 3", 8);
        EDGES.due(run, "cursorAdd 7", 4, "text 0 0", "0-1-1-2-2", "stepAt 0 3", 14);
        EDGES.due(run, "cursorAdd 2", -9);
        EDGES.due(run, "cursorAdd 6", -9);
        EDGES.due(run, "cursorAdd 3", -9);
        EDGES.due(run, "cursorAdd 5", -9);
    }

    private static void addInside() {
        for (int at = 1; at <= 2; at++) {
            String run = ROW + "cursor 0 " + at;
            EDGES.due(run, "cursorAdd 5", at + 1, "text 0 1", at == 1 ? "0-5-1-2" : "0-1-5-2", "text 0 0", "0-1-1-1-2",
                "cursorPlace true", at + 1);
            EDGES.due(run, "cursorAdd 1", -9);
            EDGES.due(run, "cursorAdd 3", -9);
            EDGES.due(run, "cursorAdd 4", -9);
            EDGES.due(run, "cursorAdd 6", -9);
            EDGES.due(run, "cursorAdd 7", -9);
        }
        EDGES.due(ROW + "oneWay true; cursor 0 1", "cursorAdd 5", 2, "text 0 1", "0-5-1-2");
    }

    // Without steps PLACE 0 is LENGTH: the street must LEAVE END. With one step it is not.
    private static void addOnShortWalks() {
        String none = "lay 0 1; lay 2 0; lay 0 0; lay 3 3; cursor 1 0";
        EDGES.due(none, "cursorAdd 0", 1, "text 1 0", "0-1", "stepAt 1 0", 0);
        EDGES.due(none, "cursorAdd 1", 1, "text 1 0", "0-2", "stepAt 1 0", 3);
        EDGES.due(none, "cursorAdd 2", 1, "text 1 0", "0-0", "stepAt 1 0", 4);
        EDGES.due(none, "cursorAdd 3", -9);
        EDGES.due(none + "; oneWay true", "cursorAdd 1", -9);
        EDGES.due(none + "; oneWay true", "cursorAdd 0", 1, "text 1 0", "0-1");
        String one = "lay 0 1; lay 2 0; lay 0 0; lay 1 0; step 1 0 false; cursor 1 0";
        EDGES.due(one, "cursorAdd 1", 1, "text 1 0", "2-0-1");
        EDGES.due(one, "cursorAdd 2", 1, "text 1 0", "0-0-1");
        EDGES.due(one, "cursorAdd 3", 1, "text 1 0", "1-0-1", "stepAt 1 0", 6);
        EDGES.due(one + "; cursor 1 1", "cursorAdd 3", 2, "text 1 0", "0-1-0", "stepAt 1 1", 6);
        EDGES.due(one + "; cursor 1 1", "cursorAdd 1", -9);
        EDGES.due(one + "; cursor 1 1", "cursorAdd 2", -9);
    }

    private static void addOneWay() {
        String run = ROW + "lay 5 0; lay 0 5; lay 2 6; lay 6 2; oneWay true; ";
        EDGES.due(run + "cursor 0 0", "cursorAdd 8", 1, "text 0 0", "5-0-1-1-2");
        EDGES.due(run + "cursor 0 0", "cursorAdd 9", -9);
        EDGES.due(run + "cursor 0 3", "cursorAdd 10", 4, "text 0 0", "0-1-1-2-6");
        EDGES.due(run + "cursor 0 3", "cursorAdd 11", -9);
    }

    private static void addEndsTold() {
        EDGES.due(ROW + "cursor 0 0; cursorGo true", "cursorAdd 5", 2, "cursorSet 0", -9, "cursorSet 5", -9, "cursorRemove",
            -9, "cursorGo false", 10, "cursorRemove", 10, "cursorPlace true", 1);
        EDGES.due(ROW + "cursor 0 3; cursorGo false; cursorGo true", "cursorAdd 7", 4, "cursorSet 2", -9, "cursorSet 7", -9,
            "cursorRemove", -9);
        EDGES.due(ROW + "cursor 0 1; cursorGo false", "cursorAdd 6", 1, "cursorSet 0", -9, "cursorSet 6", -9, "cursorRemove",
            -9, "cursorGo true", 0);
    }

    private static void addToThirty() {
        String loops = "layRing 1 0; ".repeat(30) + "on 0 true; ";
        EDGES.due(loops + "back 0 false; cursor 0 29", "cursorAdd 29", 30, "length 0", 30, "cursorPlace true", 30,
            "cursorAdd 29", -9);
        EDGES.due(loops + "back 0 true; cursor 0 0", "cursorAdd 0", 1, "length 0", 30, "stepAt 0 29", 58);
        EDGES.due(loops + "back 0 true; cursor 0 15", "cursorAdd 0", 16, "length 0", 30, "stepAt 0 15", 0, "stepAt 0 14", 30);
        EDGES.due(loops + "cursor 0 15", "cursorAdd 0", -9);
        EDGES.due(loops + "cursor 0 30; cursorGo false", "cursorRemove", 58, "length 0", 29, "cursorPlace true", 29);
    }

    private static void removeNeedsTold() {
        for (int at = 0; at <= 3; at++) {
            EDGES.due(ROW + "cursor 0 " + at, "cursorRemove", -9);
        }
        EDGES.due("cursor 0 0", "cursorRemove", -9);
        EDGES.due(ROW + "cursor 0 0; cursorGo true; cursorRemove", "cursorRemove", -9);
    }

    private static void removeFirst() {
        EDGES.due(ROW + "cursor 0 0; cursorGo true", "cursorRemove", 0, "text 0 0", "1-1-2", "cursorPlace true", 0,
            "cursorRemove", -9, "cursorSet 1", -9, "cursorGo true", 2, "cursorRemove", 2, "text 0 0", "1-2");
        EDGES.due(ROW + "cursor 0 1; cursorGo false", "cursorRemove", 0, "text 0 0", "1-1-2", "cursorPlace true", 0);
        EDGES.due(ROW + "turnRound 0; cursor 0 0; cursorGo true", "cursorRemove", 5, "text 0 0", "1-1-0");
        // The first of just two, and a LOOP as the first.
        EDGES.due(ROW + "back 0 false; cursor 0 1; cursorGo false", "cursorRemove", 0, "text 0 0", "1-1");
        EDGES.due(ROW + "back 0 true; cursor 0 0; cursorGo true", "cursorRemove", 2, "text 0 0", "1-2", "cursorPlace true",
            0);
    }

    private static void removeLast() {
        EDGES.due(ROW + "cursor 0 3; cursorGo false", "cursorRemove", 4, "text 0 0", "0-1-1", "cursorPlace true", 2,
            "cursorCan true", false, "cursorRemove", -9);
        EDGES.due(ROW + "cursor 0 2; cursorGo true", "cursorRemove", 4, "text 0 0", "0-1-1", "cursorPlace true", 2);
        // The last of just two, and a LOOP as the last.
        EDGES.due(ROW + "back 0 true; cursor 0 2; cursorGo false", "cursorRemove", 4, "text 0 0", "1-1", "cursorPlace true",
            1);
        EDGES.due(ROW + "back 0 false; cursor 0 1; cursorGo true", "cursorRemove", 2, "text 0 0", "0-1", "cursorPlace true",
            1);
    }

    // It is the first, but also the last: BEGIN stays.
    private static void removeOnly() {
        String run = "lay 3 4; begin 2 3; step 2 0 false; ";
        EDGES.due(run + "cursor 2 0; cursorGo true", "cursorRemove", 0, "text 2 0", "3", "cursorPlace true", 0);
        EDGES.due(run + "cursor 2 1; cursorGo false", "cursorRemove", 0, "text 2 0", "3", "cursorPlace true", 0);
        EDGES.due(run + "turnRound 2; cursor 2 0; cursorGo true", "cursorRemove", 1, "text 2 0", "4", "cursorPlace true", 0,
            "cursorAdd 0", 1, "text 2 0", "4-3");
        EDGES.due("lay 3 3; begin 2 3; step 2 0 false; cursor 2 0; cursorGo true", "cursorRemove", 0, "text 2 0", "3");
    }

    private static void removeInside() {
        EDGES.due(ROW + "cursor 0 1; cursorGo true", "cursorRemove", 2, "text 0 1", "0-2", "text 0 0", "0-1-2",
            "cursorPlace true", 1);
        String round = "lay 0 1; lay 1 2; lay 2 3; lay 3 0; on 0 true; ";
        for (int at = 1; at <= 2; at++) {
            EDGES.due(round + "cursor 0 " + at + "; cursorGo true", "cursorRemove", -9);
            EDGES.due(round + "cursor 0 " + (at + 1) + "; cursorGo false", "cursorRemove", -9);
        }
        EDGES.due(round + "cursor 0 0; cursorGo true", "cursorRemove", 0, "text 0 0", "1-2-3-0");
        EDGES.due(round + "cursor 0 3; cursorGo true", "cursorRemove", 6, "text 0 0", "0-1-2-3");
    }

    private static void removePlaces() {
        // Less by 1 if the step stood ahead of it, otherwise as before.
        String loops = "layRing 1 0; layRing 1 0; layRing 1 0; on 0 true; ";
        for (int at = 0; at <= 2; at++) {
            EDGES.due(loops + "cursor 0 " + at + "; cursorGo true", "cursorRemove", 2 * at, "cursorPlace true", at,
                "cursorCan true", at < 2, "cursorCan false", at > 0);
            EDGES.due(loops + "cursor 0 " + (at + 1) + "; cursorGo false", "cursorRemove", 2 * at, "cursorPlace true", at,
                "cursorCan true", at < 2, "cursorCan false", at > 0);
        }
    }
}
