/** Each argument: the least and the greatest that is let, those just beyond, and which exception goes first. */
public final class ArgumentEdgesTest {
    private static final Edges EDGES = new Edges(new Check());
    private static final String INDEX = "throws.IndexOutOfBoundsException";
    private static final String ARGUMENT = "throws.IllegalArgumentException";
    // Walk 0 is the round 0-1-2-0, walk 1 has one step, walk 2 none; street 4 is in no walk; a step is told.
    private static final String RUN = "lay 0 1; lay 1 2; lay 2 0; lay 0 0; lay 5 5; begin 1 0; step 1 3 false; "
        + "step 0 0 false; step 0 1 false; step 0 2 false; cursor 0 1; cursorGo true";

    public static void main(String[] args) {
        townArguments();
        streetArguments();
        walkArguments();
        otherArgumentsOfActs();
        placeArguments();
        askedArguments();
        severalIndexes();
        indexAheadOfArgument();
        exceptionsAheadOfRefusals();
        refusalsWithLetArguments();
        noStreetsNoNumber();
        EDGES.end();
    }

    // Where the call has a ?, each number from least to greatest is let, and none beyond.
    private static void range(String run, String call, int least, int greatest, String exception) {
        for (int number = least; number <= greatest; number++) {
            EDGES.isLet(run, call.replace("?", Integer.toString(number)));
        }
        long[] wrong = {least - 1L, greatest + 1L, least - 100L, greatest + 256L, Integer.MIN_VALUE, Integer.MAX_VALUE};
        for (long number : wrong) {
            EDGES.due(run, call.replace("?", Long.toString(number)), exception);
        }
    }

    private static void townArguments() {
        range(RUN, "lay ? 0", 0, 9, INDEX);
        range(RUN, "lay 9 ?", 0, 9, INDEX);
        range(RUN, "layRing ? 1", 1, 10, ARGUMENT);
        range(RUN, "layRing 3 ?", 0, 9, ARGUMENT);
        range(RUN, "layRing 1 ?", 0, 9, ARGUMENT);
        range(RUN, "words ? 1", 2, 5, ARGUMENT);
        range(RUN, "words 2 ?", 1, 4, ARGUMENT);
        range(RUN, "words 5 ?", 1, 4, ARGUMENT);
        range(RUN, "isStart ?", 0, 9, INDEX);
        range(RUN, "ways ? 0", 0, 9, INDEX);
        range(RUN, "ways 9 ?", 0, 2, ARGUMENT);
        range(RUN, "rule ?", 0, 2, ARGUMENT);
        range(RUN, "house ?", 0, 2, ARGUMENT);
    }

    private static void streetArguments() {
        range(RUN, "close ?", 0, 4, INDEX);
        range(RUN, "end ? true", 0, 4, INDEX);
        range(RUN, "end ? false", 0, 4, INDEX);
        range(RUN, "step 0 ? true", 0, 4, INDEX);
        range(RUN, "step 2 ? false", 0, 4, INDEX);
        range(RUN, "find 0 ?", 0, 4, INDEX);
        range(RUN, "cursorSet ?", 0, 4, INDEX);
        range(RUN, "cursorAdd ?", 0, 4, INDEX);
        range(RUN + "; lay 9 9", "end ? true", 0, 5, INDEX);
        range(RUN + "; close 4", "end ? true", 0, 3, INDEX);
        range(RUN + "; close 4", "find 2 ?", 0, 3, INDEX);
    }

    private static void walkArguments() {
        String[] calls = {"begin ? 0", "step ? 4 true", "step ? 4 false", "back ? true", "back ? false", "on ? true",
            "on ? false", "complete ? true", "complete ? false", "splice ? 1 0", "splice 0 ? 0", "join ? 1", "join 0 ?",
            "cut ? 0 0 1", "cut 0 0 3 ?", "turnRound ?", "rotate ? 0", "rotate ? 30", "first ? 0 true", "first ? 9 false",
            "next ? true", "next ? false", "copy ? 1", "copy 1 ?", "length ?", "cornerAt ? 0", "find ? 4", "is ? true",
            "is ? false", "same ? 0", "same 0 ?", "turnOf ? 0", "turnOf 0 ?", "text ? 0", "text ? 1", "text ? 2",
            "wordAt ? 0 0", "cursor ? 0"};
        for (String call : calls) {
            range(RUN, call, 0, 2, INDEX);
        }
        range(RUN, "stepAt ? 0", 0, 1, INDEX);
    }

    private static void otherArgumentsOfActs() {
        range(RUN, "begin 2 ?", 0, 9, INDEX);
        range(RUN, "first 2 ? true", 0, 9, INDEX);
        range(RUN, "first 2 ? false", 0, 9, INDEX);
        range(RUN, "rotate 0 ?", 0, 30, ARGUMENT);
        range(RUN, "rotate 2 ?", 0, 30, ARGUMENT);
    }

    // The greatest place is the LENGTH of the walk that is told first, also where another walk is told.
    private static void placeArguments() {
        range(RUN, "splice 0 1 ?", 0, 3, INDEX);
        range(RUN, "splice 1 0 ?", 0, 1, INDEX);
        range(RUN, "splice 2 0 ?", 0, 0, INDEX);
        range(RUN, "cut 0 ? 3 2", 0, 3, INDEX);
        range(RUN, "cut 0 0 ? 2", 0, 3, INDEX);
        range(RUN, "cut 1 ? 1 0", 0, 1, INDEX);
        range(RUN, "cut 1 0 ? 0", 0, 1, INDEX);
        range(RUN, "cut 2 ? 0 0", 0, 0, INDEX);
        range(RUN, "cut 2 0 ? 0", 0, 0, INDEX);
        range(RUN, "cornerAt 0 ?", 0, 3, INDEX);
        range(RUN, "cornerAt 1 ?", 0, 1, INDEX);
        range(RUN, "cornerAt 2 ?", 0, 0, INDEX);
        range(RUN, "stepAt 0 ?", 0, 2, INDEX);
        range(RUN, "stepAt 1 ?", 0, 0, INDEX);
        range(RUN, "stepAt 2 ?", 0, -1, INDEX);
        range(RUN, "cursor 0 ?", 0, 3, INDEX);
        range(RUN, "cursor 1 ?", 0, 1, INDEX);
        range(RUN, "cursor 2 ?", 0, 0, INDEX);
    }

    private static void askedArguments() {
        range(RUN, "text 0 ?", 0, 2, ARGUMENT);
        range(RUN, "text 2 ?", 0, 2, ARGUMENT);
        range(RUN, "wordAt 0 ? 0", 0, 29, ARGUMENT);
        range(RUN, "wordAt 0 0 ?", 0, 29, ARGUMENT);
        String words = "words 2 3; on 0 true";
        range(words, "wordAt 0 ? 29", 0, 29, ARGUMENT);
        range(words, "wordAt 0 29 ?", 0, 29, ARGUMENT);
    }

    private static void severalIndexes() {
        EDGES.throwsIndex(RUN, "lay 10 -1");
        EDGES.throwsIndex(RUN, "begin 3 10");
        EDGES.throwsIndex(RUN, "step 3 5 true");
        EDGES.throwsIndex(RUN, "splice 3 3 4");
        EDGES.throwsIndex(RUN, "splice 3 0 4");
        EDGES.throwsIndex(RUN, "splice 0 3 4");
        EDGES.throwsIndex(RUN, "join 3 -1");
        EDGES.throwsIndex(RUN, "cut 3 4 -1 -1");
        EDGES.throwsIndex(RUN, "cut 0 4 4 3");
        EDGES.throwsIndex(RUN, "cut 0 4 4 2");
        EDGES.throwsIndex(RUN, "first -1 10 true");
        EDGES.throwsIndex(RUN, "copy 3 3");
        EDGES.throwsIndex(RUN, "cornerAt 3 99");
        EDGES.throwsIndex(RUN, "stepAt 3 99");
        EDGES.throwsIndex(RUN, "find 3 99");
        EDGES.throwsIndex(RUN, "same 3 3");
        EDGES.throwsIndex(RUN, "turnOf -1 3");
        EDGES.throwsIndex(RUN, "cursor 3 99");
        EDGES.throwsArgument(RUN, "layRing 11 10");
        EDGES.throwsArgument(RUN, "words 1 0");
    }

    private static void indexAheadOfArgument() {
        for (int wrong : new int[] {-1, 3, 30, Integer.MIN_VALUE, Integer.MAX_VALUE}) {
            EDGES.throwsIndex(RUN, "ways 10 " + wrong);
            EDGES.throwsIndex(RUN, "ways -1 " + wrong);
            EDGES.throwsArgument(RUN, "ways 9 " + wrong);
            EDGES.throwsIndex(RUN, "text 3 " + wrong);
            EDGES.throwsIndex(RUN, "text -1 " + wrong);
            EDGES.throwsArgument(RUN, "text 2 " + wrong);
        }
        for (int wrong : new int[] {-1, 31, Integer.MIN_VALUE, Integer.MAX_VALUE}) {
            EDGES.throwsIndex(RUN, "rotate 3 " + wrong);
            EDGES.throwsIndex(RUN, "rotate -1 " + wrong);
            EDGES.throwsArgument(RUN, "rotate 2 " + wrong);
        }
        for (int wrong : new int[] {-1, 30, Integer.MIN_VALUE, Integer.MAX_VALUE}) {
            EDGES.throwsIndex(RUN, "wordAt 3 0 " + wrong);
            EDGES.throwsIndex(RUN, "wordAt -1 " + wrong + " 0");
            EDGES.throwsIndex(RUN, "wordAt 3 " + wrong + " " + wrong);
            EDGES.throwsArgument(RUN, "wordAt 2 0 " + wrong);
            EDGES.throwsArgument(RUN, "wordAt 2 " + wrong + " 0");
            EDGES.throwsArgument(RUN, "wordAt 2 " + wrong + " " + wrong);
        }
    }

    // Each of these could not be done either: exceptions go ahead of -9.
    private static void exceptionsAheadOfRefusals() {
        String full = "layRing 10 1; layRing 10 1; layRing 10 1; oneWay true; step 0 0 false; step 0 1 false";
        EDGES.throwsIndex(full, "lay 0 10");
        EDGES.throwsIndex(full, "lay -1 0");
        EDGES.throwsArgument(full, "layRing 11 1");
        EDGES.throwsArgument(full, "layRing 10 10");
        EDGES.throwsArgument(full, "words 6 4");
        EDGES.throwsArgument(full, "words 5 5");
        EDGES.throwsIndex(full, "close 30");
        EDGES.throwsIndex(full, "step 3 0 false");
        EDGES.throwsIndex(full, "step 0 30 false");
        EDGES.throwsIndex(full, "back 3 true");
        EDGES.throwsIndex(full, "complete -1 true");
        EDGES.throwsIndex(full, "splice 0 0 3");
        EDGES.throwsIndex(full, "splice 3 3 0");
        EDGES.throwsIndex(full, "splice 0 1 3");
        EDGES.throwsIndex(full, "join 3 3");
        EDGES.throwsIndex(full, "cut 0 3 0 0");
        EDGES.throwsIndex(full, "cut 0 3 3 1");
        EDGES.throwsIndex(full, "cut 0 2 -1 1");
        EDGES.throwsIndex(full, "cut 3 0 0 3");
        EDGES.throwsIndex(full, "turnRound 3");
        EDGES.throwsIndex(full, "rotate 3 1");
        EDGES.throwsArgument(full, "rotate 0 31");
        EDGES.throwsIndex(full, "first 3 0 true");
        EDGES.throwsIndex("lay 0 1; lay 2 3", "first 3 0 true");
        EDGES.throwsIndex("lay 0 1; lay 2 3", "first 0 10 true");
        EDGES.throwsIndex(full, "next 3 true");
        EDGES.throwsIndex(full, "copy -1 -1");
        EDGES.throwsIndex(full, "cursorSet 30");
        EDGES.throwsIndex(full, "cursorAdd 30");
        EDGES.throwsIndex(full + "; cursor 0 1; back 0 true", "cursorSet -1");
        EDGES.throwsIndex(full + "; cursor 0 1; back 0 true", "cursorAdd -1");
    }

    // The same calls with arguments that are let tell -9.
    private static void refusalsWithLetArguments() {
        String full = "layRing 10 1; layRing 10 1; layRing 10 1; oneWay true; step 0 0 false; step 0 1 false";
        String[] calls = {"lay 0 9", "layRing 10 9", "layRing 1 0", "words 5 4", "close 0", "step 0 29 false",
            "back 2 true", "splice 0 0 2", "splice 0 1 2", "join 2 2", "cut 0 2 0 0", "cut 0 2 2 1", "turnRound 2",
            "rotate 0 30", "rotate 0 0", "next 2 true", "copy 2 2", "cursorSet 29", "cursorAdd 29", "cursorGo true",
            "cursorGo false", "cursorRemove"};
        for (String call : calls) {
            EDGES.due(full, call, -9);
        }
    }

    private static void noStreetsNoNumber() {
        for (String call : new String[] {"close 0", "end 0 true", "end 0 false", "step 0 0 false", "step 0 0 true",
            "find 0 0", "cursorSet 0", "cursorAdd 0", "close -1", "find 2 -1"}) {
            EDGES.throwsIndex("", call);
            EDGES.throwsIndex("cursor 0 0", call);
            EDGES.throwsIndex("words 2 2; clear", call);
        }
    }
}
