/** Towns at their edges: without a street, with one street, with one LOOP, with 30; START, ODD and HANG there. */
public final class TownEdgesTest {
    private static final Edges EDGES = new Edges(new Check());
    private static final String THIRTY = "layRing 10 1; layRing 10 3; layRing 10 7";

    public static void main(String[] args) {
        noStreetAsked("");
        noStreetAsked("oneWay true");
        noStreetAsked("lay 0 1; close 0");
        noStreetAsked("lay 3 4; begin 0 4; step 0 0 true; clear");
        noStreetActs();
        noStreetWalks();
        oneStreetFree();
        oneStreetOneWay();
        oneStreetWalked();
        oneStreetActs();
        oneLoopAsked("lay 7 7");
        oneLoopAsked("lay 7 7; oneWay true");
        oneLoopWalked("lay 7 7");
        oneLoopWalked("lay 7 7; oneWay true");
        oneLoopTurned();
        thirtyAsked();
        thirtyActs();
        thirtyWalked();
        thirtyLoops();
        laidToThirty();
        waysAtEdges();
        oddAtEdges();
        hangsAtEdges();
        startOfRounds();
        startOfRows();
        startWithMoreOdd();
        wordsOfEachSize();
        closeAtEdges();
        EDGES.end();
    }

    private static void noStreetAsked(String run) {
        EDGES.due(run, "streets", 0);
        EDGES.due(run, "odd", 0);
        EDGES.due(run, "hangs", true);
        EDGES.due(run, "kind", 2);
        for (int corner = 0; corner <= 9; corner++) {
            EDGES.due(run, "isStart " + corner, true);
            EDGES.due(run, "ways " + corner + " 0", 0);
            EDGES.due(run, "ways " + corner + " 1", 0);
            EDGES.due(run, "ways " + corner + " 2", 0);
        }
        for (int walk = 0; walk <= 2; walk++) {
            EDGES.due(run, "is " + walk + " true", true);
            EDGES.due(run, "is " + walk + " false", true);
            EDGES.due(run, "length " + walk, 0);
            EDGES.due(run, "text " + walk + " 0", "0");
            EDGES.due(run, "text " + walk + " 1", "");
            EDGES.due(run, "text " + walk + " 2", "");
            EDGES.due(run, "wordAt " + walk + " 0 0", -1);
            EDGES.due(run, "turnOf " + walk + " 0", 0);
            EDGES.due(run, "same 2 " + walk, true);
        }
        EDGES.due(run, "rule 0", 0);
        EDGES.due(run, "rule 1", 0);
        EDGES.due(run, "isSound", true);
    }

    private static void noStreetActs() {
        EDGES.due("", "clear", 0, "streets", 0, "rule 2", 0);
        EDGES.due("oneWay true", "clear", 0, "rule 2", 0);
        EDGES.due("", "turnTown", 0, "streets", 0);
        EDGES.due("", "oneWay true", 1, "rule 2", 1);
        EDGES.due("", "oneWay false", 0, "rule 2", 0);
        EDGES.due("oneWay true", "oneWay true", 0, "rule 2", 1);
        EDGES.due("oneWay true", "oneWay false", 1, "rule 2", 0);
        EDGES.due("", "lay 9 0", 0, "streets", 1, "end 0 false", 9, "end 0 true", 0);
        EDGES.due("oneWay true", "lay 0 1", 0, "rule 2", 1);
        EDGES.due("oneWay true", "layRing 1 0", 1, "rule 2", 1);
        EDGES.due("", "layRing 10 9", 10, "end 0 true", 9, "end 1 true", 0, "end 9 true", 8);
    }

    private static void noStreetWalks() {
        EDGES.due("", "begin 1 9", 0, "cornerAt 1 0", 9, "cornerAt 0 0", 0);
        EDGES.due("", "on 0 true", 0);
        EDGES.due("", "on 0 false", 0);
        EDGES.due("begin 0 9", "complete 0 true", 0, "text 0 0", "9");
        EDGES.due("begin 0 9", "complete 0 false", 0, "text 0 0", "9");
        EDGES.due("begin 0 9", "first 0 4 true", 0, "text 0 0", "4");
        EDGES.due("begin 0 9", "first 0 0 false", 0, "text 0 0", "0");
        EDGES.due("", "next 0 true", -9);
        EDGES.due("", "next 0 false", -9);
        EDGES.due("", "back 0 true", -9);
        EDGES.due("", "splice 0 1 0", -9);
        EDGES.due("", "join 0 1", -9);
        EDGES.due("", "cut 0 0 0 1", -9);
        EDGES.due("begin 0 6", "turnRound 0", 6);
        EDGES.due("begin 0 6; oneWay true", "turnRound 0", -9);
        EDGES.due("begin 0 6", "rotate 0 30", 6);
        EDGES.due("begin 0 6", "copy 0 1", 0, "text 1 0", "6");
        EDGES.due("begin 0 6", "cursor 0 0", 6, "cursorPlace true", 0, "cursorPlace false", -1, "cursorCan true", false,
            "cursorCan false", false);
    }

    private static void oneStreetFree() {
        String run = "lay 9 0";
        EDGES.due(run, "odd", 2);
        EDGES.due(run, "hangs", true);
        EDGES.due(run, "kind", 1);
        for (int corner = 0; corner <= 9; corner++) {
            EDGES.due(run, "isStart " + corner, corner == 0 || corner == 9);
        }
        EDGES.due(run, "ways 9 0", 1);
        EDGES.due(run, "ways 9 1", 1);
        EDGES.due(run, "ways 9 2", 0);
        EDGES.due(run, "ways 0 0", 1);
        EDGES.due(run, "ways 0 1", 0);
        EDGES.due(run, "ways 0 2", 1);
        EDGES.due(run, "is 0 true", false);
        EDGES.due(run, "is 0 false", true);
    }

    private static void oneStreetOneWay() {
        String run = "lay 9 0; oneWay true";
        EDGES.due(run, "odd", 2);
        EDGES.due(run, "hangs", true);
        EDGES.due(run, "kind", 1);
        for (int corner = 0; corner <= 9; corner++) {
            EDGES.due(run, "isStart " + corner, corner == 9);
        }
        EDGES.due(run, "complete 0 true", -9);
        EDGES.due(run, "first 0 0 true", -9);
        EDGES.due(run, "on 0 true", 0);
        EDGES.due(run + "; begin 0 9", "complete 0 true", 1, "text 0 0", "9-0");
        EDGES.due(run, "first 0 9 false", 1, "text 0 0", "9-0");
        EDGES.due(run + "; turnTown", "isStart 0", true);
        EDGES.due(run + "; turnTown", "isStart 9", false);
    }

    private static void oneStreetWalked() {
        EDGES.due("lay 0 1", "step 0 0 false", 1, "stepAt 0 0", 0, "is 0 true", true, "is 0 false", false);
        EDGES.due("lay 0 1", "step 0 0 true", 1, "stepAt 0 0", 1, "text 0 0", "1-0");
        EDGES.due("lay 1 0", "step 0 0 false", 1, "stepAt 0 0", 1, "text 0 0", "0-1");
        EDGES.due("lay 1 0", "step 0 0 true", 1, "stepAt 0 0", 0, "text 0 0", "1-0");
        EDGES.due("lay 0 1", "on 0 true", 1, "text 0 1", "0");
        EDGES.due("lay 1 0", "on 0 false", 1, "stepAt 0 0", 1);
        EDGES.due("lay 1 0", "complete 0 true", 1, "stepAt 0 0", 1);
        EDGES.due("lay 1 0", "first 2 0 true", 1, "stepAt 2 0", 1);
        EDGES.due("lay 1 0; first 2 0 true", "next 2 true", -9);
        EDGES.due("lay 1 0; first 2 0 true", "next 2 false", -9);
        EDGES.due("lay 1 0", "first 2 2 true", -9);
        EDGES.due("lay 0 1; step 0 0 false", "step 0 0 false", -9);
        EDGES.due("lay 0 1; step 0 0 false", "step 0 0 true", -9);
        EDGES.due("lay 0 1; step 0 0 false; begin 1 1", "step 1 0 false", 0, "stepAt 1 0", 1);
    }

    private static void oneStreetActs() {
        EDGES.due("lay 0 1", "close 0", 0, "streets", 0);
        EDGES.due("lay 0 1; step 2 0 false", "close 0", -9);
        EDGES.due("lay 0 1; step 2 0 false", "clear", 1, "length 2", 0);
        EDGES.due("lay 0 1; step 2 0 false", "oneWay true", 1);
        EDGES.due("lay 1 0; step 2 0 false", "oneWay true", -9);
        EDGES.due("lay 1 0; step 2 0 false", "oneWay false", 0);
        EDGES.due("lay 1 0; step 2 0 false", "turnTown", 1, "text 2 0", "1-0", "stepAt 2 0", 1, "end 0 true", 1);
        EDGES.due("lay 1 0; step 2 0 false", "turnRound 2", 1, "text 2 0", "1-0", "stepAt 2 0", 0, "end 0 true", 0);
        EDGES.due("lay 1 0; step 2 0 false", "rotate 2 0", -9);
        EDGES.due("lay 1 0; step 2 0 false", "rotate 2 1", -9);
        EDGES.due("lay 1 0; step 2 0 false", "cut 2 0 1 0", -9);
        EDGES.due("lay 1 0; step 2 0 false", "back 2 true", 1, "text 2 0", "1");
        EDGES.due("lay 1 0; step 2 0 false", "back 2 false", 1, "text 2 0", "0");
    }

    private static void oneLoopAsked(String run) {
        EDGES.due(run, "ways 7 0", 2);
        EDGES.due(run, "ways 7 1", 1);
        EDGES.due(run, "ways 7 2", 1);
        EDGES.due(run, "odd", 0);
        EDGES.due(run, "hangs", true);
        EDGES.due(run, "kind", 2);
        for (int corner = 0; corner <= 9; corner++) {
            EDGES.due(run, "isStart " + corner, corner == 7);
        }
        EDGES.due(run, "end 0 true", 7);
        EDGES.due(run, "end 0 false", 7);
        EDGES.due(run, "is 0 true", false);
    }

    // A LOOP is walked FORWARD, always: its step has the number 0 here.
    private static void oneLoopWalked(String run) {
        EDGES.due(run, "step 0 0 false", -9);
        EDGES.due(run, "step 0 0 true", -9);
        EDGES.due(run, "complete 0 true", -9);
        EDGES.due(run, "first 0 0 true", -9);
        EDGES.due(run, "on 0 true", 0);
        String at = run + "; begin 0 7";
        for (String act : new String[] {"on 0 true", "on 0 false", "complete 0 true", "complete 0 false",
            "first 0 7 true", "first 0 7 false"}) {
            EDGES.due(at, act, 1, "stepAt 0 0", 0, "text 0 0", "7-7", "is 0 true", true, "is 0 false", true);
        }
        EDGES.due(at, "step 0 0 false", 7, "stepAt 0 0", 0, "text 0 0", "7-7");
        EDGES.due(at, "step 0 0 true", 7, "stepAt 0 0", 0, "text 0 0", "7-7");
        EDGES.due(at + "; cursor 0 0", "cursorAdd 0", 1, "stepAt 0 0", 0, "text 0 0", "7-7", "cursorPlace true", 1);
        String walked = at + "; on 0 true";
        EDGES.due(walked, "rotate 0 0", 7, "stepAt 0 0", 0);
        EDGES.due(walked, "rotate 0 1", 7, "stepAt 0 0", 0);
        EDGES.due(walked, "rotate 0 30", 7, "stepAt 0 0", 0);
        EDGES.due(walked, "next 0 true", -9);
        EDGES.due(walked, "next 0 false", -9);
        EDGES.due(walked, "cut 0 0 1 1", 1, "text 0 0", "7", "text 1 0", "7-7");
        EDGES.due(walked + "; begin 1 7", "splice 1 0 0", 1, "text 0 0", "7", "text 1 0", "7-7");
        EDGES.due(walked + "; begin 1 7", "join 1 0", 0, "text 0 0", "7", "text 1 0", "7-7");
        EDGES.due(walked, "splice 1 0 0", -9);
        EDGES.due(walked, "join 1 0", -9);
        EDGES.due(walked + "; cursor 0 0; cursorGo true", "cursorSet 0", 0, "stepAt 0 0", 0);
        EDGES.due(walked + "; cursor 0 0; cursorGo true", "cursorRemove", 0, "text 0 0", "7", "cursorPlace true", 0);
        EDGES.due(walked, "turnTown", 1, "stepAt 0 0", 0, "text 0 0", "7-7");
    }

    private static void oneLoopTurned() {
        EDGES.due("lay 7 7; begin 0 7; on 0 true", "turnRound 0", 7, "stepAt 0 0", 0);
        EDGES.due("lay 7 7; begin 0 7; on 0 true; turnRound 0", "oneWay true", 1);
        EDGES.due("lay 7 7; begin 0 7; on 0 true; oneWay true", "turnRound 0", -9);
    }

    private static void thirtyAsked() {
        EDGES.due(THIRTY, "streets", 30);
        EDGES.due(THIRTY, "end 29 false", 9);
        EDGES.due(THIRTY, "end 29 true", 6);
        EDGES.due(THIRTY, "ways 9 0", 6);
        EDGES.due(THIRTY, "odd", 0);
        EDGES.due(THIRTY, "hangs", true);
        EDGES.due(THIRTY, "kind", 2);
        EDGES.due(THIRTY, "isSound", true);
        EDGES.due(THIRTY + "; oneWay true", "kind", 2);
        EDGES.due(THIRTY + "; oneWay true", "isSound", true);
        EDGES.due("layRing 10 0; layRing 10 0; layRing 10 0", "hangs", false);
        EDGES.due("layRing 10 0; layRing 10 0; layRing 10 0", "kind", 0);
    }

    private static void thirtyActs() {
        EDGES.due(THIRTY, "lay 0 0", -9);
        EDGES.due(THIRTY, "layRing 1 0", -9);
        EDGES.due(THIRTY, "words 2 4", 16, "streets", 16);
        EDGES.due(THIRTY, "words 5 3", -9);
        EDGES.due(THIRTY, "close 29", 29, "end 28 true", 5);
        EDGES.due(THIRTY, "close 0", 29, "end 28 true", 6, "end 0 false", 1);
        EDGES.due(THIRTY + "; close 4", "lay 4 4", 29, "streets", 30);
        EDGES.due(THIRTY + "; close 4", "layRing 1 0", 30);
        EDGES.due(THIRTY + "; close 4", "layRing 2 1", -9);
        EDGES.due(THIRTY, "clear", 30, "streets", 0);
        EDGES.due(THIRTY, "turnTown", 30, "end 29 false", 6, "end 29 true", 9);
        EDGES.due(THIRTY, "oneWay true", 1);
    }

    private static void thirtyWalked() {
        for (String rule : new String[] {"oneWay false", "oneWay true"}) {
            String run = THIRTY + "; " + rule;
            for (String least : new String[] {"true", "false"}) {
                EDGES.due(run, "complete 0 " + least, 30, "is 0 true", true, "is 0 false", true, "length 0", 30);
                EDGES.due(run, "first 0 9 " + least, 30, "is 0 true", true, "is 0 false", true, "cornerAt 0 30", 9);
            }
            String whole = run + "; first 0 0 true";
            EDGES.due(whole, "next 0 false", -9);
            EDGES.due(whole, "rotate 0 30", 0, "stepAt 0 0", 0);
            EDGES.due(whole, "on 0 true", 0);
            EDGES.due(whole, "complete 0 true", 0);
            EDGES.due(whole, "stepAt 0 30", "throws.IndexOutOfBoundsException");
            EDGES.due(whole, "cut 0 0 30 1", 30, "length 0", 0, "length 1", 30);
            EDGES.due(whole + "; copy 0 1; rotate 1 29", "turnOf 0 1", 29);
            EDGES.due(whole + "; copy 0 1; rotate 1 29", "turnOf 1 0", 1);
            EDGES.due(whole + "; cursor 0 30", "cursorCan true", false);
            EDGES.due(whole + "; cursor 0 30", "cursorCan false", true);
            EDGES.due(whole + "; cursor 0 30", "cursorGo true", -9);
            EDGES.due(whole + "; cursor 0 30", "cursorAdd 0", -9);
            EDGES.due(whole + "; cut 0 0 30 1", "splice 0 1 0", 30, "length 0", 30, "length 1", 0);
        }
        EDGES.due(THIRTY + "; first 0 0 false", "turnRound 0", 0, "is 0 true", true);
    }

    private static void thirtyLoops() {
        StringBuilder run = new StringBuilder();
        StringBuilder streets = new StringBuilder("0");
        for (int street = 0; street < 30; street++) {
            run.append("layRing 1 0; ");
            streets.append(street == 0 ? "" : "-" + street);
        }
        EDGES.due(run.toString(), "kind", 2);
        EDGES.due(run.toString(), "ways 0 0", 60);
        EDGES.due(run.toString(), "ways 0 1", 30);
        EDGES.due(run.toString(), "on 0 true", 30, "text 0 1", streets.toString());
        EDGES.due(run.toString(), "first 0 0 true", 30, "text 0 1", streets.toString());
        EDGES.due(run + "first 0 0 true", "next 0 true", 28, "stepAt 0 28", 58, "stepAt 0 29", 56);
        EDGES.due(run + "first 0 0 false", "next 0 false", 28, "stepAt 0 28", 0, "stepAt 0 29", 2);
        EDGES.due(run + "first 0 0 false", "next 0 true", -9);
    }

    private static void laidToThirty() {
        StringBuilder run = new StringBuilder();
        for (int street = 0; street < 30; street++) {
            EDGES.due(run.toString(), "lay " + street % 10 + " " + street / 10, street, "streets", street + 1);
            run.append("lay 1 2; ");
        }
        EDGES.due(run.toString(), "lay 1 2", -9);
        EDGES.due("layRing 10 1; layRing 10 1; layRing 9 1", "layRing 1 0", 30);
        EDGES.due("layRing 10 1; layRing 10 1; layRing 9 1", "layRing 2 0", -9);
        EDGES.due("layRing 10 1; layRing 10 1", "layRing 10 0", 30);
        EDGES.due("layRing 10 1; layRing 10 1; lay 0 0", "layRing 10 0", -9);
        EDGES.due("layRing 10 1; layRing 10 1; lay 0 0", "layRing 9 0", 30);
    }

    private static void waysAtEdges() {
        String run = "lay 0 9; lay 9 9; lay 9 0; lay 9 1";
        EDGES.due(run, "ways 9 0", 5);
        EDGES.due(run, "ways 9 1", 3);
        EDGES.due(run, "ways 9 2", 2);
        EDGES.due(run, "ways 0 0", 2);
        EDGES.due(run + "; oneWay true", "ways 9 0", 5);
        EDGES.due(run + "; turnTown", "ways 9 1", 2);
        EDGES.due(run + "; turnTown", "ways 9 2", 3);
    }

    private static void oddAtEdges() {
        EDGES.due("lay 0 0", "odd", 0);
        EDGES.due("lay 0 1; lay 0 1", "odd", 0);
        EDGES.due("lay 0 1; lay 0 1; oneWay true", "odd", 2);
        EDGES.due("lay 0 1; lay 1 0; oneWay true", "odd", 0);
        EDGES.due("lay 0 1; lay 0 0", "odd", 2);
        EDGES.due("lay 0 1; lay 2 3; lay 4 5; lay 6 7; lay 8 9", "odd", 10);
        EDGES.due("lay 0 1; lay 2 3; lay 4 5; lay 6 7; lay 8 9; oneWay true", "odd", 10);
        EDGES.due("lay 0 1; lay 0 2; oneWay true", "odd", 3);
    }

    private static void hangsAtEdges() {
        EDGES.due("lay 0 1; lay 2 3", "hangs", false);
        EDGES.due("lay 0 1; lay 2 3; lay 1 2", "hangs", true);
        EDGES.due("lay 0 1; lay 2 3; lay 1 2; close 2", "hangs", false);
        EDGES.due("lay 0 1; lay 2 3; lay 1 2; oneWay true", "hangs", true);
        EDGES.due("lay 1 0; lay 1 2; oneWay true", "hangs", true);
        EDGES.due("lay 0 1; lay 2 1; oneWay true", "hangs", true);
        EDGES.due("lay 0 0; lay 9 9", "hangs", false);
        EDGES.due("lay 0 0; lay 0 0", "hangs", true);
        EDGES.due("lay 0 0; lay 9 9; lay 9 0", "hangs", true);
        // A row that is laid so that each pass over the streets comes just one corner on.
        String row = "lay 8 9; lay 7 8; lay 6 7; lay 5 6; lay 4 5; lay 3 4; lay 2 3; lay 1 2";
        EDGES.due("lay 0 0; " + row, "hangs", false);
        EDGES.due("lay 0 0; " + row + "; lay 0 1", "hangs", true);
        EDGES.due("lay 0 0; " + row + "; lay 0 1; lay 9 9", "hangs", true);
    }

    private static void startOfRounds() {
        for (String rule : new String[] {"; oneWay false", "; oneWay true"}) {
            String round = "lay 9 4; lay 4 0; lay 0 9; lay 4 4" + rule;
            for (int corner = 0; corner <= 9; corner++) {
                EDGES.due(round, "isStart " + corner, corner == 0 || corner == 4 || corner == 9);
                EDGES.due(round + "; lay 1 1", "isStart " + corner, false);
            }
            EDGES.due(round, "kind", 2);
            EDGES.due(round + "; lay 1 1", "odd", 0);
            EDGES.due(round + "; lay 1 1", "kind", 0);
        }
        EDGES.due("lay 0 1; lay 0 1; lay 2 3; lay 2 3", "kind", 0);
        EDGES.due("lay 0 1; lay 1 0; lay 2 3", "kind", 0);
        EDGES.due("lay 0 1; lay 1 0; lay 2 3", "isStart 2", false);
    }

    private static void startOfRows() {
        String row = "lay 3 9; lay 9 0";
        for (int corner = 0; corner <= 9; corner++) {
            EDGES.due(row, "isStart " + corner, corner == 3 || corner == 0);
            EDGES.due(row + "; oneWay true", "isStart " + corner, corner == 3);
            EDGES.due(row + "; oneWay true; turnTown", "isStart " + corner, corner == 0);
        }
        EDGES.due(row, "kind", 1);
        EDGES.due(row + "; oneWay true", "kind", 1);
        // Two ODD corners in a ONE-WAY town, whose OUT and IN are apart by 2.
        EDGES.due("lay 0 1; lay 0 1; oneWay true", "odd", 2);
        EDGES.due("lay 0 1; lay 0 1; oneWay true", "isStart 0", false);
        EDGES.due("lay 0 1; lay 0 1; oneWay true", "isStart 1", false);
        EDGES.due("lay 0 1; lay 0 1; oneWay true", "kind", 0);
        EDGES.due("lay 0 1; lay 0 1", "kind", 2);
        // OUT is IN and 1 also where both are above 0.
        EDGES.due("lay 0 1; lay 1 0; lay 0 1; oneWay true", "isStart 0", true);
        EDGES.due("lay 0 1; lay 1 0; lay 0 1; oneWay true", "isStart 1", false);
        EDGES.due("lay 0 1; lay 1 0; lay 0 1; oneWay true", "kind", 1);
    }

    private static void startWithMoreOdd() {
        String star = "lay 0 1; lay 0 2; lay 0 3";
        EDGES.due(star, "odd", 4);
        EDGES.due(star, "kind", 0);
        EDGES.due(star, "isStart 0", false);
        EDGES.due(star, "isStart 1", false);
        EDGES.due(star + "; lay 1 2", "odd", 2);
        EDGES.due(star + "; lay 1 2", "kind", 1);
        EDGES.due(star + "; lay 1 2; oneWay true", "odd", 3);
        EDGES.due(star + "; lay 1 2; oneWay true", "kind", 0);
        EDGES.due(star + "; lay 1 2; oneWay true", "isStart 0", false);
        // Three ODD corners, one with OUT above IN by 1.
        EDGES.due("lay 0 1; lay 1 2; lay 3 2; oneWay true", "odd", 3);
        EDGES.due("lay 0 1; lay 1 2; lay 3 2; oneWay true", "isStart 0", false);
    }

    private static void wordsOfEachSize() {
        int[][] sizes = {{2, 1}, {2, 2}, {2, 3}, {2, 4}, {3, 1}, {3, 2}, {3, 3}, {4, 1}, {4, 2}, {5, 1}, {5, 2}};
        for (int[] size : sizes) {
            int many = (int) Math.pow(size[0], size[1]);
            String call = "words " + size[0] + " " + size[1];
            EDGES.due("lay 0 1", call, many, "streets", many, "rule 0", size[0], "rule 1", size[1], "rule 2", 1,
                "kind", 2, "isStart 0", true, "end 0 false", 0, "end 0 true", 0,
                "end " + (many - 1) + " false", many / size[0] - 1, "end " + (many - 1) + " true", many / size[0] - 1);
        }
        for (String call : new String[] {"words 3 4", "words 4 3", "words 4 4", "words 5 3", "words 5 4"}) {
            EDGES.due("", call, -9);
            EDGES.due("words 3 3; on 0 true; cursor 0 1; cursorGo true", call, -9);
        }
        // Where LENGTH is 1 each street is a LOOP at 0, with its own number as SIGN.
        EDGES.due("words 5 1", "end 4 false", 0);
        EDGES.due("words 5 1", "end 4 true", 0);
        EDGES.due("words 5 1; on 0 true", "text 0 2", "0-1-2-3-4");
        EDGES.due("words 5 1; on 0 true", "text 0 0", "0-0-0-0-0-0");
        EDGES.due("words 3 3", "end 5 false", 1);
        EDGES.due("words 3 3", "end 5 true", 5);
        EDGES.due("words 3 3", "end 21 false", 7);
        EDGES.due("words 3 3", "end 21 true", 3);
    }

    private static void closeAtEdges() {
        String run = "lay 0 1; lay 1 2; lay 2 3; lay 3 0; begin 1 1; step 1 1 false; step 1 2 false";
        EDGES.due(run, "close 0", 3, "text 1 1", "0-1", "end 0 false", 1, "end 2 true", 0);
        EDGES.due(run, "close 1", -9);
        EDGES.due(run, "close 2", -9);
        EDGES.due(run, "close 3", 3, "text 1 1", "1-2", "end 2 true", 3);
        EDGES.due(run + "; copy 1 0; copy 1 2; begin 1 0", "close 0", 3, "text 0 1", "0-1", "text 2 1", "0-1");
        EDGES.due(run + "; copy 1 0; begin 1 0", "close 1", -9);
        EDGES.due(run + "; copy 1 2; begin 1 0", "close 2", -9);
        EDGES.due(run + "; begin 1 0", "close 1", 3, "end 1 false", 2);
        EDGES.due("lay 0 1; lay 1 0; begin 2 1; step 2 0 false; step 2 1 false; back 2 true", "close 0", 1,
            "stepAt 2 0", 1, "text 2 0", "0-1");
    }
}
