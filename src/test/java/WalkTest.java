/** Promises 17 to 26 and 29: the acts on the walks, but for first() and next(). */
public final class WalkTest {
    private static final Check CHECK = new Check();

    public static void main(String[] args) {
        begin();
        stepFree();
        stepOneWay();
        back();
        on();
        completeRound();
        completeFromSteps();
        splice();
        spliceRefused();
        join();
        joinRefused();
        cut();
        cutRefused();
        turnRound();
        rotate();
        copy();
        wrongWalks();
        CHECK.end();
    }

    private static void begin() {
        Allstreets x = Face.townOf(0, 1, 1, 2);
        CHECK.act(x, "begin(0, 9)", () -> x.begin(0, 9), 0);
        CHECK.due("cornerAt(0, 0)", x.cornerAt(0, 0), 9);
        Face.walk(x, 0, 0, 0, 1);
        CHECK.act(x, "begin of two steps", () -> x.begin(0, 1), 2);
        CHECK.due("length(0)", x.length(0), 0);
        CHECK.due("cornerAt(0, 0)", x.cornerAt(0, 0), 1);
        CHECK.due("the others stay", x.cornerAt(1, 0), 0);
        CHECK.throwsIndex(x, "begin(3, 0)", () -> x.begin(3, 0));
        CHECK.throwsIndex(x, "begin(-1, 0)", () -> x.begin(-1, 0));
        CHECK.throwsIndex(x, "begin(0, 10)", () -> x.begin(0, 10));
        CHECK.throwsIndex(x, "begin(0, -1)", () -> x.begin(0, -1));
    }

    private static void stepFree() {
        Allstreets x = Face.townOf(0, 1, 2, 1, 2, 2, 3, 0);
        x.begin(1, 0);
        CHECK.act(x, "step(1, 0) forward", () -> x.step(1, 0, false), 1);
        CHECK.act(x, "step(1, 1) backward", () -> x.step(1, 1, false), 2);
        CHECK.act(x, "step(1, 2) a loop", () -> x.step(1, 2, false), 2);
        CHECK.refused(x, "step(1, 2) again", () -> x.step(1, 2, false));
        CHECK.refused(x, "step(1, 3) does not leave", () -> x.step(1, 3, false));
        CHECK.act(x, "step(1, 3) ahead", () -> x.step(1, 3, true), 3);
        CHECK.due("steps", Face.stepsOf(x, 1), "6-0-3-4");
        CHECK.due("corners", x.text(1, 0), "3-0-1-2-2");
        CHECK.refused(x, "step(1, 3) ahead again", () -> x.step(1, 3, true));
        x.begin(2, 0);
        CHECK.act(x, "step(2, 0) ahead, backward", () -> x.step(2, 0, true), 1);
        CHECK.due("steps", Face.stepsOf(x, 2), "1");
        CHECK.refused(x, "step(2, 2) ahead does not come", () -> x.step(2, 2, true));
        x.begin(2, 2);
        CHECK.act(x, "step(2, 2) ahead, a loop", () -> x.step(2, 2, true), 2);
        CHECK.due("a loop is walked forward", Face.stepsOf(x, 2), "4");
        CHECK.throwsIndex(x, "step(3, 0)", () -> x.step(3, 0, false));
        CHECK.throwsIndex(x, "step(-1, 0)", () -> x.step(-1, 0, true));
        CHECK.throwsIndex(x, "step(0, 4)", () -> x.step(0, 4, false));
        CHECK.throwsIndex(x, "step(0, -1)", () -> x.step(0, -1, false));
    }

    private static void stepOneWay() {
        Allstreets x = Face.townOf(0, 1, 2, 1);
        x.oneWay(true);
        x.begin(0, 1);
        CHECK.refused(x, "step against a one-way street", () -> x.step(0, 1, false));
        CHECK.act(x, "step ahead with it", () -> x.step(0, 1, true), 2);
        CHECK.refused(x, "step ahead that does not come", () -> x.step(0, 0, true));
        x.begin(0, 0);
        CHECK.refused(x, "step ahead against a one-way street", () -> x.step(0, 0, true));
        CHECK.act(x, "step with it", () -> x.step(0, 0, false), 1);
    }

    private static void back() {
        Allstreets x = Face.townOf(0, 1, 2, 1, 2, 3);
        CHECK.refused(x, "back(0, false) of none", () -> x.back(0, false));
        CHECK.refused(x, "back(0, true) of none", () -> x.back(0, true));
        Face.walk(x, 0, 0, 0, 1, 2);
        CHECK.act(x, "back(0, false)", () -> x.back(0, false), 4);
        CHECK.due("corners", x.text(0, 0), "0-1-2");
        CHECK.act(x, "back(0, true)", () -> x.back(0, true), 0);
        CHECK.due("corners", x.text(0, 0), "1-2");
        CHECK.act(x, "back(0, true) of one", () -> x.back(0, true), 3);
        CHECK.due("begin is where it came to", x.text(0, 0), "2");
        Face.walk(x, 0, 0, 0);
        CHECK.act(x, "back(0, false) of one", () -> x.back(0, false), 0);
        CHECK.due("begin stays", x.text(0, 0), "0");
        CHECK.throwsIndex(x, "back(3, true)", () -> x.back(3, true));
        CHECK.throwsIndex(x, "back(-1, true)", () -> x.back(-1, true));
    }

    private static void on() {
        Allstreets x = Face.townOf(0, 1, 1, 2, 2, 0, 0, 3, 4, 0, 0, 0);
        CHECK.act(x, "on(0, true)", () -> x.on(0, true), 4);
        CHECK.due("by the least", Face.stepsOf(x, 0), "0-2-4-6");
        CHECK.act(x, "on(0, true) again", () -> x.on(0, true), 0);
        CHECK.act(x, "on(1, false)", () -> x.on(1, false), 2);
        CHECK.due("by the greatest", Face.stepsOf(x, 1), "10-9");
        Face.walk(x, 2, 3, 3);
        CHECK.act(x, "on(2, true) from END", () -> x.on(2, true), 4);
        CHECK.due("behind what was there", Face.stepsOf(x, 2), "7-0-2-4-9");
        Allstreets w = Face.townOf(0, 1, 1, 2, 2, 0, 0, 3, 4, 0, 0, 0);
        w.oneWay(true);
        CHECK.act(w, "on(0, false) one-way", () -> w.on(0, false), 2);
        CHECK.due("forward alone", Face.stepsOf(w, 0), "10-6");
    }

    private static void completeRound() {
        Allstreets x = Face.townOf(0, 1, 1, 2, 2, 0, 1, 3, 3, 1, 2, 2);
        CHECK.act(x, "complete(0, true)", () -> x.complete(0, true), 6);
        CHECK.due("rounds by the least", Face.stepsOf(x, 0), "0-6-8-2-10-4");
        CHECK.due("it is whole", x.is(0, true), true);
        CHECK.act(x, "complete(1, false)", () -> x.complete(1, false), 6);
        CHECK.due("by the greatest", Face.stepsOf(x, 1), "5-10-3-9-7-1");
        CHECK.act(x, "complete of a whole one", () -> x.complete(0, true), 0);
        x.begin(2, 9);
        CHECK.refused(x, "complete from no start", () -> x.complete(2, true));
        Allstreets none = new Allstreets();
        none.begin(0, 9);
        CHECK.act(none, "complete without streets", () -> none.complete(0, true), 0);
    }

    private static void completeFromSteps() {
        Allstreets x = Face.townOf(0, 1, 1, 3, 1, 2, 2, 1);
        x.oneWay(true);
        Face.walk(x, 0, 0, 0);
        CHECK.act(x, "complete with a step", () -> x.complete(0, true), 3);
        CHECK.due("the round comes in at place 1", x.text(0, 1), "0-2-3-1");
        CHECK.due("corners", x.text(0, 0), "0-1-2-1-3");
        Face.walk(x, 1, 1, 2);
        CHECK.refused(x, "complete from an even corner", () -> x.complete(1, true));
        x.begin(1, 3);
        CHECK.refused(x, "complete from the other odd corner", () -> x.complete(1, true));
        Allstreets first = Face.townOf(0, 1, 0, 2, 2, 0);
        first.oneWay(true);
        CHECK.act(first, "complete with a round at place 0", () -> first.complete(0, true), 3);
        CHECK.due("the round comes in at place 0", first.text(0, 1), "1-2-0");
        Allstreets inner = Face.townOf(0, 1, 1, 2, 2, 1, 1, 0, 2, 3, 3, 2, 3, 3);
        CHECK.act(inner, "complete with a round in a round", () -> inner.complete(0, true), 7);
        CHECK.due("rounds in rounds", inner.text(0, 1), "0-1-4-6-5-2-3");
    }

    private static void splice() {
        Allstreets x = Face.townOf(0, 1, 1, 0, 1, 2, 2, 1);
        x.oneWay(true);
        Face.walk(x, 0, 0, 0, 1);
        Face.walk(x, 1, 1, 2, 3);
        CHECK.act(x, "splice in the middle", () -> x.splice(0, 1, 1), 4);
        CHECK.due("steps", x.text(0, 1), "0-2-3-1");
        CHECK.due("the other's steps", x.length(1), 0);
        CHECK.due("the other's begin", x.cornerAt(1, 0), 1);
        Face.walk(x, 0, 1, 2, 3);
        Face.walk(x, 1, 1, 1, 0);
        CHECK.act(x, "splice behind all", () -> x.splice(0, 1, 2), 4);
        CHECK.due("steps", x.text(0, 1), "2-3-1-0");
        Face.walk(x, 0, 1, 2);
        Face.walk(x, 1, 1, 1, 0);
        CHECK.act(x, "splice ahead of all, into one not home", () -> x.splice(0, 1, 0), 3);
        CHECK.due("steps", x.text(0, 1), "1-0-2");
        Face.walk(x, 1, 1, 1, 0);
        x.begin(2, 1);
        CHECK.act(x, "splice into one without steps", () -> x.splice(2, 1, 0), 2);
        CHECK.due("steps", x.text(2, 1), "1-0");
    }

    private static void spliceRefused() {
        Allstreets x = Face.townOf(0, 1, 1, 0, 1, 2, 2, 1);
        Face.walk(x, 0, 0, 0, 1);
        x.begin(1, 0);
        CHECK.refused(x, "splice of one without steps", () -> x.splice(0, 1, 0));
        Face.walk(x, 1, 1, 2);
        CHECK.refused(x, "splice of one not home", () -> x.splice(0, 1, 1));
        Face.walk(x, 1, 1, 2, 3);
        CHECK.refused(x, "splice at another corner", () -> x.splice(0, 1, 0));
        CHECK.refused(x, "splice at another corner", () -> x.splice(0, 1, 2));
        CHECK.refused(x, "splice of itself", () -> x.splice(0, 0, 0));
        Face.walk(x, 1, 0, 1, 0);
        CHECK.refused(x, "splice with a street in both", () -> x.splice(0, 1, 0));
        CHECK.throwsIndex(x, "splice(3, 0, 0)", () -> x.splice(3, 0, 0));
        CHECK.throwsIndex(x, "splice(0, 3, 0)", () -> x.splice(0, 3, 0));
        CHECK.throwsIndex(x, "splice(0, -1, 0)", () -> x.splice(0, -1, 0));
        CHECK.throwsIndex(x, "splice(0, 1, 3)", () -> x.splice(0, 1, 3));
        CHECK.throwsIndex(x, "splice(0, 1, -1)", () -> x.splice(0, 1, -1));
        CHECK.throwsIndex(x, "splice(0, 0, 3)", () -> x.splice(0, 0, 3));
    }

    private static void join() {
        Allstreets x = Face.townOf(0, 1, 1, 2, 2, 1, 1, 3, 3, 1);
        x.oneWay(true);
        Face.walk(x, 0, 0, 0);
        Face.walk(x, 1, 2, 2, 3, 4, 1);
        CHECK.act(x, "join(0, 1)", () -> x.join(0, 1), 1);
        CHECK.due("begun by least steps", x.text(0, 1), "0-3-4-1-2");
        CHECK.due("the other's begin", x.text(1, 0), "1");
        Face.walk(x, 0, 2, 2, 3);
        Face.walk(x, 1, 1);
        x.lay(3, 2);
        x.lay(2, 3);
        Face.walk(x, 1, 3, 5, 6);
        CHECK.act(x, "join at place 0", () -> x.join(0, 1), 0);
        CHECK.due("turned to 2", x.text(0, 1), "6-5-2-3");
        CHECK.due("the other's begin", x.text(1, 0), "2");
        x.begin(2, 2);
        Face.walk(x, 1, 1, 1, 2);
        CHECK.act(x, "join to one without steps", () -> x.join(2, 1), 0);
        CHECK.due("turned to 2", x.text(2, 1), "2-1");
    }

    private static void joinRefused() {
        Allstreets x = Face.townOf(0, 1, 1, 0, 1, 2, 2, 1, 5, 6, 6, 5);
        Face.walk(x, 0, 0, 0, 1);
        CHECK.refused(x, "join of itself", () -> x.join(0, 0));
        CHECK.refused(x, "join of one without steps", () -> x.join(0, 1));
        Face.walk(x, 1, 1, 2);
        CHECK.refused(x, "join of one not home", () -> x.join(0, 1));
        Face.walk(x, 1, 5, 4, 5);
        CHECK.refused(x, "join without a corner in both", () -> x.join(0, 1));
        Face.walk(x, 1, 1, 1, 0);
        CHECK.refused(x, "join with a street in both", () -> x.join(0, 1));
        CHECK.throwsIndex(x, "join(3, 0)", () -> x.join(3, 0));
        CHECK.throwsIndex(x, "join(-1, 0)", () -> x.join(-1, 0));
        CHECK.throwsIndex(x, "join(0, 3)", () -> x.join(0, 3));
        CHECK.throwsIndex(x, "join(0, -1)", () -> x.join(0, -1));
    }

    private static void cut() {
        Allstreets x = Face.townOf(0, 1, 1, 2, 2, 1, 1, 3, 3, 1, 4, 5);
        Face.walk(x, 0, 0, 0, 3, 4, 1, 2);
        Face.walk(x, 2, 4, 5);
        CHECK.act(x, "cut(0, 1, 3, 2)", () -> x.cut(0, 1, 3, 2), 2);
        CHECK.due("what stays", x.text(0, 1), "0-1-2");
        CHECK.due("what goes", x.text(2, 1), "3-4");
        CHECK.due("where it begins", x.text(2, 0), "1-3-1");
        CHECK.act(x, "cut at the end", () -> x.cut(0, 1, 3, 1), 2);
        CHECK.due("what stays", x.text(0, 1), "0");
        CHECK.due("what goes", x.text(1, 0), "1-2-1");
        CHECK.act(x, "cut of all", () -> x.cut(1, 0, 2, 0), 2);
        CHECK.due("what stays", x.text(1, 0), "1");
        CHECK.due("what goes", x.text(0, 0), "1-2-1");
    }

    private static void cutRefused() {
        Allstreets x = Face.townOf(0, 1, 1, 2, 2, 1);
        Face.walk(x, 0, 0, 0, 1, 2);
        CHECK.refused(x, "cut into itself", () -> x.cut(0, 1, 3, 0));
        CHECK.refused(x, "cut of nothing", () -> x.cut(0, 1, 1, 1));
        CHECK.refused(x, "cut the other way", () -> x.cut(0, 3, 1, 1));
        CHECK.refused(x, "cut of no round", () -> x.cut(0, 0, 3, 1));
        CHECK.throwsIndex(x, "cut(3, 0, 0, 0)", () -> x.cut(3, 0, 0, 0));
        CHECK.throwsIndex(x, "cut(-1, 0, 0, 0)", () -> x.cut(-1, 0, 0, 0));
        CHECK.throwsIndex(x, "cut(0, 1, 3, 3)", () -> x.cut(0, 1, 3, 3));
        CHECK.throwsIndex(x, "cut(0, 1, 3, -1)", () -> x.cut(0, 1, 3, -1));
        CHECK.throwsIndex(x, "cut(0, -1, 3, 1)", () -> x.cut(0, -1, 3, 1));
        CHECK.throwsIndex(x, "cut(0, 4, 3, 1)", () -> x.cut(0, 4, 3, 1));
        CHECK.throwsIndex(x, "cut(0, 1, 4, 1)", () -> x.cut(0, 1, 4, 1));
        CHECK.throwsIndex(x, "cut(0, 1, -1, 1)", () -> x.cut(0, 1, -1, 1));
        CHECK.throwsIndex(x, "cut(0, 1, 4, 0)", () -> x.cut(0, 1, 4, 0));
    }

    private static void turnRound() {
        Allstreets x = Face.townOf(0, 1, 1, 1, 2, 1);
        Face.walk(x, 0, 0, 0, 1, 2);
        CHECK.act(x, "turnRound(0)", () -> x.turnRound(0), 2);
        CHECK.due("each the other way, a loop forward", Face.stepsOf(x, 0), "4-2-1");
        CHECK.due("corners", x.text(0, 0), "2-1-1-0");
        x.begin(1, 7);
        CHECK.act(x, "turnRound of one without steps", () -> x.turnRound(1), 7);
        x.begin(0, 0);
        x.oneWay(true);
        CHECK.refused(x, "turnRound one-way", () -> x.turnRound(0));
        CHECK.throwsIndex(x, "turnRound(3)", () -> x.turnRound(3));
        CHECK.throwsIndex(x, "turnRound(-1)", () -> x.turnRound(-1));
    }

    private static void rotate() {
        Allstreets x = Face.townOf(0, 1, 1, 2, 2, 0, 0, 3);
        Face.walk(x, 0, 0, 0, 1, 2);
        CHECK.act(x, "rotate(0, 0)", () -> x.rotate(0, 0), 0);
        CHECK.act(x, "rotate(0, 1)", () -> x.rotate(0, 1), 1);
        CHECK.due("steps", x.text(0, 1), "1-2-0");
        CHECK.act(x, "rotate(0, 3)", () -> x.rotate(0, 3), 1);
        CHECK.due("steps", x.text(0, 1), "1-2-0");
        CHECK.act(x, "rotate(0, 29)", () -> x.rotate(0, 29), 0);
        CHECK.due("steps", x.text(0, 1), "0-1-2");
        CHECK.act(x, "rotate(0, 30)", () -> x.rotate(0, 30), 0);
        x.begin(1, 8);
        CHECK.act(x, "rotate of one without steps", () -> x.rotate(1, 5), 8);
        Face.walk(x, 2, 0, 3);
        CHECK.refused(x, "rotate of one not home", () -> x.rotate(2, 1));
        CHECK.refused(x, "rotate by 0 of one not home", () -> x.rotate(2, 0));
        CHECK.throwsArgument(x, "rotate(0, 31)", () -> x.rotate(0, 31));
        CHECK.throwsArgument(x, "rotate(0, -1)", () -> x.rotate(0, -1));
        CHECK.throwsArgument(x, "rotate(2, 31) not home", () -> x.rotate(2, 31));
        CHECK.throwsIndex(x, "rotate(3, 31)", () -> x.rotate(3, 31));
        CHECK.throwsIndex(x, "rotate(-1, 0)", () -> x.rotate(-1, 0));
    }

    private static void copy() {
        Allstreets x = Face.townOf(0, 1, 2, 1);
        Face.walk(x, 0, 0, 0, 1);
        Face.walk(x, 1, 2, 1);
        CHECK.act(x, "copy(0, 1)", () -> x.copy(0, 1), 2);
        CHECK.due("steps", Face.stepsOf(x, 1), "0-3");
        CHECK.due("begin", x.cornerAt(1, 0), 0);
        CHECK.due("the other stays", Face.stepsOf(x, 0), "0-3");
        x.back(1, false);
        CHECK.due("the other stays also later", x.length(0), 2);
        x.begin(2, 9);
        CHECK.act(x, "copy of one without steps", () -> x.copy(2, 0), 0);
        CHECK.due("begin", x.text(0, 0), "9");
        CHECK.refused(x, "copy into itself", () -> x.copy(1, 1));
        CHECK.throwsIndex(x, "copy(3, 0)", () -> x.copy(3, 0));
        CHECK.throwsIndex(x, "copy(-1, 0)", () -> x.copy(-1, 0));
        CHECK.throwsIndex(x, "copy(0, 3)", () -> x.copy(0, 3));
        CHECK.throwsIndex(x, "copy(0, -1)", () -> x.copy(0, -1));
    }

    private static void wrongWalks() {
        Allstreets x = Face.townOf(0, 1);
        for (int wrong : new int[] {-1, 3, Integer.MIN_VALUE, Integer.MAX_VALUE}) {
            CHECK.throwsIndex(x, "on of no walk", () -> x.on(wrong, true));
            CHECK.throwsIndex(x, "complete of no walk", () -> x.complete(wrong, true));
        }
    }
}
