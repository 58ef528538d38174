/** Promises 1 to 16: the town, the acts on it and what is asked of it. */
public final class TownTest {
    private static final Check CHECK = new Check();

    public static void main(String[] args) {
        newObject();
        lay();
        layRing();
        words();
        wordsEmptiesAll();
        close();
        closeRenumbers();
        clear();
        oneWay();
        turnTown();
        streetsAndEnds();
        ways();
        odd();
        hangs();
        kindAndStartInFreeTown();
        kindAndStartInOneWayTown();
        rule();
        CHECK.end();
    }

    private static void newObject() {
        Allstreets x = new Allstreets();
        CHECK.due("new: streets()", x.streets(), 0);
        CHECK.due("new: rule(0)", x.rule(0), 0);
        CHECK.due("new: rule(1)", x.rule(1), 0);
        CHECK.due("new: rule(2)", x.rule(2), 0);
        for (int walk = 0; walk < 3; walk++) {
            CHECK.due("new: length", x.length(walk), 0);
            CHECK.due("new: cornerAt", x.cornerAt(walk, 0), 0);
            CHECK.due("new: house", x.house(walk), 0);
        }
        CHECK.due("new: cursorPlace(true)", x.cursorPlace(true), -2);
        CHECK.due("new: kind()", x.kind(), 2);
        CHECK.due("new: hangs()", x.hangs(), true);
    }

    private static void lay() {
        Allstreets x = new Allstreets();
        CHECK.act(x, "lay(0, 9)", () -> x.lay(0, 9), 0);
        CHECK.act(x, "lay(9, 9)", () -> x.lay(9, 9), 1);
        CHECK.due("end(0, false)", x.end(0, false), 0);
        CHECK.due("end(0, true)", x.end(0, true), 9);
        CHECK.throwsIndex(x, "lay(10, 0)", () -> x.lay(10, 0));
        CHECK.throwsIndex(x, "lay(-1, 0)", () -> x.lay(-1, 0));
        CHECK.throwsIndex(x, "lay(0, 10)", () -> x.lay(0, 10));
        CHECK.throwsIndex(x, "lay(0, -1)", () -> x.lay(0, -1));
        for (int street = 2; street < 30; street++) {
            CHECK.due("lay", x.lay(3, street % 10), street);
        }
        CHECK.refused(x, "lay as 31st", () -> x.lay(1, 2));
        CHECK.throwsIndex(x, "lay(0, 10) as 31st", () -> x.lay(0, 10));
        Allstreets w = new Allstreets();
        w.words(2, 2);
        CHECK.act(w, "lay in words", () -> w.lay(8, 9), 4);
        CHECK.due("lay ends words: rule(0)", w.rule(0), 0);
        CHECK.due("lay ends words: rule(1)", w.rule(1), 0);
        CHECK.due("lay leaves one-way: rule(2)", w.rule(2), 1);
    }

    private static void layRing() {
        Allstreets x = new Allstreets();
        CHECK.act(x, "layRing(5, 7)", () -> x.layRing(5, 7), 5);
        for (int street = 0; street < 5; street++) {
            CHECK.due("ring from", x.end(street, false), street);
            CHECK.due("ring to", x.end(street, true), (street + 7) % 5);
        }
        CHECK.act(x, "layRing(1, 9)", () -> x.layRing(1, 9), 6);
        CHECK.due("ring of one is a loop", x.end(5, true), 0);
        CHECK.act(x, "layRing(10, 0)", () -> x.layRing(10, 0), 16);
        CHECK.due("ring by 0 is of loops", x.end(15, true), 9);
        CHECK.throwsArgument(x, "layRing(0, 1)", () -> x.layRing(0, 1));
        CHECK.throwsArgument(x, "layRing(-3, 1)", () -> x.layRing(-3, 1));
        CHECK.throwsArgument(x, "layRing(11, 1)", () -> x.layRing(11, 1));
        CHECK.throwsArgument(x, "layRing(3, -1)", () -> x.layRing(3, -1));
        CHECK.throwsArgument(x, "layRing(3, 10)", () -> x.layRing(3, 10));
        x.layRing(10, 1);
        CHECK.refused(x, "layRing to 31", () -> x.layRing(5, 1));
        CHECK.act(x, "layRing to 30", () -> x.layRing(4, 1), 30);
        Allstreets w = new Allstreets();
        w.words(3, 3);
        CHECK.refused(w, "layRing in a full town of words", () -> w.layRing(4, 1));
        CHECK.due("refused layRing leaves words", w.rule(0), 3);
        CHECK.act(w, "layRing in words", () -> w.layRing(3, 1), 30);
        CHECK.due("layRing ends words", w.rule(0) + w.rule(1), 0);
    }

    private static void words() {
        int[][] let = {{2, 1, 2}, {2, 2, 4}, {2, 3, 8}, {2, 4, 16}, {3, 1, 3}, {3, 2, 9}, {3, 3, 27},
            {4, 1, 4}, {4, 2, 16}, {5, 1, 5}, {5, 2, 25}};
        for (int[] town : let) {
            wordsAreLaid(new Allstreets(), town[0], town[1], town[2]);
            wordsAreLaid(Calls.after("words 5 2"), town[0], town[1], town[2]);
        }
        int[][] tooMany = {{3, 4}, {4, 3}, {4, 4}, {5, 3}, {5, 4}};
        for (int[] town : tooMany) {
            Allstreets x = Calls.after("words 5 2");
            CHECK.refused(x, "words(" + town[0] + ", " + town[1] + ")", () -> x.words(town[0], town[1]));
        }
        Allstreets x = Calls.after("words 2 3");
        int[][] wrong = {{1, 2}, {6, 1}, {-1, 2}, {2, 0}, {2, 5}, {2, -1}, {6, 9}};
        for (int[] town : wrong) {
            CHECK.throwsArgument(x, "words(" + town[0] + ", " + town[1] + ")", () -> x.words(town[0], town[1]));
        }
    }

    private static void wordsAreLaid(Allstreets x, int signs, int length, int many) {
        CHECK.act(x, "words(" + signs + ", " + length + ")", () -> x.words(signs, length), many);
        CHECK.due("words: rule(0)", x.rule(0), signs);
        CHECK.due("words: rule(1)", x.rule(1), length);
        CHECK.due("words: rule(2)", x.rule(2), 1);
        CHECK.due("words: streets()", x.streets(), many);
        for (int word = 0; word < many; word++) {
            String digits = digitsOf(word, signs, length);
            CHECK.due("words: from", x.end(word, false), number(digits.substring(0, length - 1), signs));
            CHECK.due("words: to", x.end(word, true), number(digits.substring(1), signs));
        }
    }

    private static String digitsOf(int word, int signs, int length) {
        String digits = Integer.toString(word, signs);
        return "0".repeat(length - digits.length()) + digits;
    }

    private static int number(String digits, int signs) {
        return digits.isEmpty() ? 0 : Integer.parseInt(digits, signs);
    }

    private static void wordsEmptiesAll() {
        Allstreets x = Face.townOf(4, 5, 5, 6, 6, 4);
        Face.walk(x, 0, 4, 0, 1);
        Face.walk(x, 1, 5, 1);
        x.begin(2, 7);
        x.cursor(0, 1);
        int acts = x.house(0);
        CHECK.act(x, "words(2, 2)", () -> x.words(2, 2), 4);
        CHECK.due("words: house(0) counts on", x.house(0), acts + 1);
        for (int walk = 0; walk < 3; walk++) {
            CHECK.due("words: length", x.length(walk), 0);
            CHECK.due("words: begin", x.cornerAt(walk, 0), 0);
        }
        CHECK.due("words: no cursor", x.cursorPlace(true), -2);
        CHECK.due("words: no cursor", x.cursorCan(true), false);
    }

    private static void close() {
        Allstreets x = Face.townOf(0, 1, 1, 2, 2, 0, 3, 3);
        CHECK.throwsIndex(x, "close(4)", () -> x.close(4));
        CHECK.throwsIndex(x, "close(-1)", () -> x.close(-1));
        for (int walk = 0; walk < 3; walk++) {
            int on = walk;
            Face.walk(x, on, 1, 1);
            CHECK.refused(x, "close of a walked street", () -> x.close(1));
            x.begin(on, 0);
        }
        CHECK.act(x, "close(1)", () -> x.close(1), 3);
        CHECK.due("close: streets()", x.streets(), 3);
        CHECK.due("close: those behind move up", x.end(1, false), 2);
        CHECK.due("close: those behind move up", x.end(2, false), 3);
        CHECK.due("close: those behind move up", x.end(1, true), 0);
        CHECK.due("close: those behind move up", x.end(2, true), 3);
        CHECK.due("close: those ahead stay", x.end(0, true), 1);
        Allstreets w = new Allstreets();
        w.words(2, 1);
        CHECK.act(w, "close in words", () -> w.close(1), 1);
        CHECK.due("close ends words", w.rule(0) + w.rule(1), 0);
        CHECK.due("close leaves one-way", w.rule(2), 1);
        CHECK.act(w, "close of the last", () -> w.close(0), 0);
        CHECK.throwsIndex(w, "close without streets", () -> w.close(0));
    }

    private static void closeRenumbers() {
        Allstreets x = Face.townOf(0, 1, 1, 2, 3, 3, 2, 0);
        Face.walk(x, 0, 0, 3, 1, 0);
        Face.walk(x, 2, 2, 3);
        x.cursor(0, 0);
        x.cursorGo(true);
        CHECK.due("before close", Face.stepsOf(x, 0), "7-3-1");
        CHECK.act(x, "close(2)", () -> x.close(2), 3);
        CHECK.due("close renumbers steps", Face.stepsOf(x, 0), "5-3-1");
        CHECK.due("close renumbers in each walk", Face.stepsOf(x, 2), "4");
        CHECK.due("close leaves the cursor", x.cursorPlace(true), 1);
        CHECK.act(x, "close leaves the told step", () -> x.cursorSet(2), 5);
    }

    private static void clear() {
        Allstreets x = Face.townOf(4, 5, 5, 6, 6, 4);
        Face.walk(x, 0, 4, 0, 1);
        x.begin(2, 7);
        x.cursor(0, 1);
        x.oneWay(true);
        CHECK.act(x, "clear()", x::clear, 3);
        CHECK.due("clear: streets()", x.streets(), 0);
        CHECK.due("clear: free", x.rule(2), 0);
        for (int walk = 0; walk < 3; walk++) {
            CHECK.due("clear: length", x.length(walk), 0);
            CHECK.due("clear: begin", x.cornerAt(walk, 0), 0);
        }
        CHECK.due("clear: no cursor", x.cursorPlace(true), -2);
        CHECK.act(x, "clear() again", x::clear, 0);
        x.words(3, 2);
        CHECK.act(x, "clear() of words", x::clear, 9);
        CHECK.due("clear ends words", x.rule(0) + x.rule(1) + x.rule(2), 0);
    }

    private static void oneWay() {
        Allstreets x = Face.townOf(0, 1, 1, 2);
        CHECK.act(x, "oneWay(false) when free", () -> x.oneWay(false), 0);
        CHECK.act(x, "oneWay(true)", () -> x.oneWay(true), 1);
        CHECK.due("rule(2)", x.rule(2), 1);
        CHECK.act(x, "oneWay(true) again", () -> x.oneWay(true), 0);
        CHECK.act(x, "oneWay(false)", () -> x.oneWay(false), 1);
        CHECK.due("rule(2)", x.rule(2), 0);
        for (int walk = 0; walk < 3; walk++) {
            int on = walk;
            Face.walk(x, on, 1, 0);
            CHECK.refused(x, "oneWay(true) with a backward step", () -> x.oneWay(true));
            CHECK.act(x, "oneWay(false) with a backward step", () -> x.oneWay(false), 0);
            Face.walk(x, on, 0, 0, 1);
        }
        CHECK.act(x, "oneWay(true) with forward steps", () -> x.oneWay(true), 1);
        Allstreets w = new Allstreets();
        w.words(2, 3);
        CHECK.act(w, "oneWay(false) in words", () -> w.oneWay(false), 1);
        CHECK.due("a town of words stays one", w.rule(0), 2);
        CHECK.due("a town of words stays one", w.rule(1), 3);
        CHECK.act(w, "oneWay(true) in words", () -> w.oneWay(true), 1);
        CHECK.due("a town of words stays one", w.rule(0), 2);
    }

    private static void turnTown() {
        Allstreets x = Face.townOf(0, 1, 1, 2, 2, 2, 3, 2);
        Face.walk(x, 0, 0, 0, 1, 2, 3);
        x.begin(1, 6);
        CHECK.due("before turnTown", Face.stepsOf(x, 0), "0-2-4-7");
        x.cursor(0, 3);
        x.cursorGo(false);
        CHECK.act(x, "turnTown()", x::turnTown, 4);
        CHECK.due("turnTown: from", x.end(0, false), 1);
        CHECK.due("turnTown: to", x.end(0, true), 0);
        CHECK.due("turnTown: steps", Face.stepsOf(x, 0), "7-4-2-0");
        CHECK.due("turnTown: corners", x.text(0, 0), "3-2-2-1-0");
        CHECK.due("turnTown: a walk without steps", x.cornerAt(1, 0), 6);
        CHECK.due("turnTown leaves the place", x.cursorPlace(true), 2);
        CHECK.act(x, "turnTown: told is that at its place", () -> x.cursorSet(1), 2);
        Allstreets w = new Allstreets();
        w.words(2, 2);
        CHECK.act(w, "turnTown() of words", w::turnTown, 4);
        CHECK.due("turnTown ends words", w.rule(0) + w.rule(1), 0);
        CHECK.due("turnTown leaves one-way", w.rule(2), 1);
        Allstreets none = new Allstreets();
        CHECK.act(none, "turnTown() of none", none::turnTown, 0);
    }

    private static void streetsAndEnds() {
        Allstreets x = Face.townOf(7, 8, 9, 9);
        CHECK.due("streets()", x.streets(), 2);
        CHECK.due("end(0, true)", x.end(0, true), 8);
        CHECK.due("end(0, false)", x.end(0, false), 7);
        CHECK.due("end(1, true)", x.end(1, true), 9);
        CHECK.throwsIndex(x, "end(2, true)", () -> x.end(2, true));
        CHECK.throwsIndex(x, "end(-1, false)", () -> x.end(-1, false));
        CHECK.due("asking is no act", x.house(0), 2);
    }

    private static void ways() {
        Allstreets x = Face.townOf(0, 1, 0, 2, 0, 0, 3, 0);
        CHECK.due("ways(0, 0)", x.ways(0, 0), 5);
        CHECK.due("ways(0, 1)", x.ways(0, 1), 3);
        CHECK.due("ways(0, 2)", x.ways(0, 2), 2);
        CHECK.due("ways(9, 0)", x.ways(9, 0), 0);
        CHECK.due("ways(1, 2) asked first", Face.townOf(0, 1, 2, 1).ways(1, 2), 2);
        CHECK.due("ways(0, 1) asked first", Face.townOf(0, 1, 0, 2).ways(0, 1), 2);
        CHECK.throwsIndex(x, "ways(10, 0)", () -> x.ways(10, 0));
        CHECK.throwsIndex(x, "ways(-1, 0)", () -> x.ways(-1, 0));
        CHECK.throwsArgument(x, "ways(0, 3)", () -> x.ways(0, 3));
        CHECK.throwsArgument(x, "ways(0, -1)", () -> x.ways(0, -1));
        CHECK.throwsIndex(x, "ways(10, 3)", () -> x.ways(10, 3));
    }

    private static void odd() {
        Allstreets x = Face.townOf(0, 1, 1, 2, 5, 5);
        CHECK.due("odd() free", x.odd(), 2);
        x.oneWay(true);
        CHECK.due("odd() one-way", x.odd(), 2);
        x.lay(3, 2);
        CHECK.due("odd() one-way, touching even at 2", x.odd(), 3);
        x.oneWay(false);
        CHECK.due("odd() free, 2 is even", x.odd(), 2);
        CHECK.due("odd() of none", new Allstreets().odd(), 0);
    }

    private static void hangs() {
        CHECK.due("one street hangs", Face.townOf(3, 4).hangs(), true);
        CHECK.due("two apart", Face.townOf(3, 4, 5, 6).hangs(), false);
        CHECK.due("over a loop's corner", Face.townOf(3, 4, 4, 4).hangs(), true);
        CHECK.due("a loop apart", Face.townOf(3, 4, 5, 5).hangs(), false);
        Allstreets x = Face.townOf(0, 1, 2, 1, 2, 3, 4, 3, 5, 4, 6, 5, 6, 7, 8, 7, 9, 8);
        CHECK.due("a long row", x.hangs(), true);
        x.oneWay(true);
        CHECK.due("whichever way they go", x.hangs(), true);
        CHECK.due("a row laid from its end", Face.townOf(8, 9, 6, 7, 7, 8, 4, 5, 5, 6).hangs(), true);
        CHECK.due("two rounds apart", Face.townOf(0, 1, 1, 2, 2, 0, 3, 4, 4, 5, 5, 3).hangs(), false);
    }

    private static void kindAndStartInFreeTown() {
        Allstreets none = new Allstreets();
        for (int corner = 0; corner < 10; corner++) {
            CHECK.due("each is a start without streets", none.isStart(corner), true);
        }
        Allstreets round = Face.townOf(0, 1, 2, 1, 2, 0);
        CHECK.due("kind() of a round", round.kind(), 2);
        CHECK.due("isStart(1) of a round", round.isStart(1), true);
        CHECK.due("isStart(3) off the round", round.isStart(3), false);
        round.lay(0, 3);
        CHECK.due("kind() with two odd", round.kind(), 1);
        CHECK.due("isStart(0) odd", round.isStart(0), true);
        CHECK.due("isStart(3) odd", round.isStart(3), true);
        CHECK.due("isStart(1) even", round.isStart(1), false);
        round.lay(1, 4);
        CHECK.due("kind() with four odd", round.kind(), 0);
        CHECK.due("isStart(0) of four", round.isStart(0), false);
        Allstreets apart = Face.townOf(0, 0, 1, 1);
        CHECK.due("kind() of two apart", apart.kind(), 0);
        CHECK.due("isStart(0) of two apart", apart.isStart(0), false);
        CHECK.throwsIndex(apart, "isStart(10)", () -> apart.isStart(10) ? 1 : 0);
        CHECK.throwsIndex(apart, "isStart(-1)", () -> apart.isStart(-1) ? 1 : 0);
    }

    private static void kindAndStartInOneWayTown() {
        Allstreets x = Face.townOf(0, 1, 1, 2);
        x.oneWay(true);
        CHECK.due("kind() of a row", x.kind(), 1);
        CHECK.due("isStart(0)", x.isStart(0), true);
        CHECK.due("isStart(2) goes in only", x.isStart(2), false);
        CHECK.due("isStart(1) is not odd", x.isStart(1), false);
        x.lay(2, 0);
        CHECK.due("kind() of a one-way round", x.kind(), 2);
        CHECK.due("isStart(2) of a round", x.isStart(2), true);
        CHECK.due("isStart(9) off the round", x.isStart(9), false);
        Allstreets two = Face.townOf(0, 1, 0, 1);
        CHECK.due("kind() of a free pair", two.kind(), 2);
        two.oneWay(true);
        CHECK.due("kind() with out above in by 2", two.kind(), 0);
        CHECK.due("isStart(0) with out above in by 2", two.isStart(0), false);
        CHECK.due("odd() of both", two.odd(), 2);
    }

    private static void rule() {
        Allstreets x = new Allstreets();
        CHECK.throwsArgument(x, "rule(3)", () -> x.rule(3));
        CHECK.throwsArgument(x, "rule(-1)", () -> x.rule(-1));
        x.words(3, 2);
        CHECK.due("rule(0)", x.rule(0), 3);
        CHECK.due("rule(1)", x.rule(1), 2);
        CHECK.due("rule(2)", x.rule(2), 1);
    }
}
