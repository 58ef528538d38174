import java.util.function.Consumer;

/** Promises 39 to 45: the cursor, its acts and what is asked of it, and what makes it LOST. */
public final class CursorTest {
    private static final Check CHECK = new Check();

    public static void main(String[] args) {
        noCursor();
        cursor();
        cursorGo();
        cursorSet();
        cursorSetRefused();
        cursorSetOneWay();
        cursorAddAtEnds();
        cursorAddInside();
        cursorAddOneWay();
        cursorRemoveAtEnds();
        cursorRemoveInside();
        cursorRemovePlaces();
        lostByActs();
        lostWithOneStep();
        keptByActs();
        lostStaysLost();
        toldAfterTurns();
        CHECK.end();
    }

    // Corners of walk 0: 0-1-2-2-0; street 5 is a twin of street 1, street 6 a loop at 1.
    private static Allstreets standing(int place) {
        Allstreets x = Face.townOf(0, 1, 1, 2, 2, 2, 0, 2, 3, 0, 2, 1, 1, 1);
        Face.walk(x, 0, 0, 0, 1, 2, 3);
        x.cursor(0, place);
        return x;
    }

    private static void noCursor() {
        Allstreets x = Face.townOf(0, 1);
        CHECK.refused(x, "cursorGo(true)", () -> x.cursorGo(true));
        CHECK.refused(x, "cursorGo(false)", () -> x.cursorGo(false));
        CHECK.refused(x, "cursorSet(0)", () -> x.cursorSet(0));
        CHECK.refused(x, "cursorAdd(0)", () -> x.cursorAdd(0));
        CHECK.refused(x, "cursorRemove()", x::cursorRemove);
        CHECK.due("cursorCan(true)", x.cursorCan(true), false);
        CHECK.due("cursorCan(false)", x.cursorCan(false), false);
        CHECK.due("cursorPlace(true)", x.cursorPlace(true), -2);
        CHECK.due("cursorPlace(false)", x.cursorPlace(false), -2);
        CHECK.throwsIndex(x, "cursorSet(1)", () -> x.cursorSet(1));
        CHECK.throwsIndex(x, "cursorSet(-1)", () -> x.cursorSet(-1));
        CHECK.throwsIndex(x, "cursorAdd(1)", () -> x.cursorAdd(1));
        CHECK.throwsIndex(x, "cursorAdd(-1)", () -> x.cursorAdd(-1));
    }

    private static void cursor() {
        Allstreets x = standing(0);
        CHECK.act(x, "cursor(0, 4)", () -> x.cursor(0, 4), 0);
        CHECK.due("cursorPlace(true)", x.cursorPlace(true), 4);
        CHECK.due("cursorPlace(false)", x.cursorPlace(false), 3);
        CHECK.act(x, "cursor(0, 2)", () -> x.cursor(0, 2), 2);
        CHECK.act(x, "cursor(1, 0)", () -> x.cursor(1, 0), 0);
        CHECK.due("cursorPlace(false) at 0", x.cursorPlace(false), -1);
        CHECK.throwsIndex(x, "cursor(1, 1)", () -> x.cursor(1, 1));
        CHECK.throwsIndex(x, "cursor(0, 5)", () -> x.cursor(0, 5));
        CHECK.throwsIndex(x, "cursor(0, -1)", () -> x.cursor(0, -1));
        CHECK.throwsIndex(x, "cursor(3, 0)", () -> x.cursor(3, 0));
        CHECK.throwsIndex(x, "cursor(-1, 0)", () -> x.cursor(-1, 0));
        x.cursor(0, 0);
        x.cursorGo(true);
        x.cursor(0, 1);
        CHECK.refused(x, "cursor() has no told step", x::cursorRemove);
    }

    private static void cursorGo() {
        Allstreets x = standing(0);
        CHECK.due("cursorCan(true) at 0", x.cursorCan(true), true);
        CHECK.due("cursorCan(false) at 0", x.cursorCan(false), false);
        CHECK.refused(x, "cursorGo(false) at 0", () -> x.cursorGo(false));
        int[] steps = {0, 2, 4, 7};
        for (int step : steps) {
            CHECK.act(x, "cursorGo(true)", () -> x.cursorGo(true), step);
        }
        CHECK.due("cursorPlace(true) at the end", x.cursorPlace(true), 4);
        CHECK.due("cursorCan(true) at the end", x.cursorCan(true), false);
        CHECK.due("cursorCan(false) at the end", x.cursorCan(false), true);
        CHECK.refused(x, "cursorGo(true) at the end", () -> x.cursorGo(true));
        CHECK.act(x, "the told step outlives a -9", x::cursorRemove, 7);
        for (int i = 2; i >= 0; i--) {
            int step = steps[i];
            CHECK.act(x, "cursorGo(false)", () -> x.cursorGo(false), step);
        }
        CHECK.due("cursorPlace(true) at the start", x.cursorPlace(true), 0);
    }

    private static void cursorSet() {
        Allstreets x = standing(1);
        x.cursorGo(true);
        CHECK.act(x, "cursorSet(5), the twin, backward", () -> x.cursorSet(5), 2);
        CHECK.due("steps", Face.stepsOf(x, 0), "0-11-4-7");
        CHECK.due("place stays", x.cursorPlace(true), 2);
        CHECK.act(x, "cursorSet(5) again", () -> x.cursorSet(5), 11);
        CHECK.act(x, "cursorSet(1), it stays told", () -> x.cursorSet(1), 11);
        CHECK.due("steps", Face.stepsOf(x, 0), "0-2-4-7");
        Allstreets loops = Face.townOf(4, 4, 4, 4, 4, 4);
        Face.walk(loops, 1, 4, 0, 1);
        loops.cursor(1, 2);
        loops.cursorGo(false);
        CHECK.act(loops, "cursorSet of a loop", () -> loops.cursorSet(2), 2);
        CHECK.due("a loop forward", Face.stepsOf(loops, 1), "0-4");
        Allstreets back = Face.townOf(0, 1, 0, 1);
        Face.walk(back, 0, 1, 0);
        back.cursor(0, 0);
        back.cursorGo(true);
        CHECK.act(back, "cursorSet of one walked backward", () -> back.cursorSet(1), 1);
        CHECK.due("backward as well", Face.stepsOf(back, 0), "3");
    }

    private static void cursorSetRefused() {
        Allstreets x = standing(1);
        CHECK.refused(x, "cursorSet without a told step", () -> x.cursorSet(5));
        x.cursorGo(true);
        CHECK.refused(x, "cursorSet of a street that goes elsewhere", () -> x.cursorSet(4));
        CHECK.refused(x, "cursorSet of a loop", () -> x.cursorSet(6));
        CHECK.refused(x, "cursorSet of a street elsewhere in the walk", () -> x.cursorSet(0));
        CHECK.throwsIndex(x, "cursorSet(7)", () -> x.cursorSet(7));
        Allstreets twins = Face.townOf(0, 1, 1, 0, 0, 1);
        Face.walk(twins, 0, 0, 0, 1, 2);
        twins.cursor(0, 0);
        twins.cursorGo(true);
        CHECK.refused(twins, "cursorSet of a twin elsewhere in the walk", () -> twins.cursorSet(2));
        CHECK.refused(twins, "cursorSet of a twin elsewhere in the walk", () -> twins.cursorSet(1));
        CHECK.act(twins, "cursorSet of that there", () -> twins.cursorSet(0), 0);
        twins.cursor(0, 3);
        twins.cursorGo(false);
        CHECK.refused(twins, "cursorSet of a twin at place 0", () -> twins.cursorSet(0));
    }

    private static void cursorSetOneWay() {
        Allstreets x = Face.townOf(0, 1, 1, 0, 0, 1);
        x.oneWay(true);
        Face.walk(x, 0, 0, 0);
        x.cursor(0, 1);
        x.cursorGo(false);
        CHECK.refused(x, "cursorSet against a one-way street", () -> x.cursorSet(1));
        CHECK.act(x, "cursorSet with a one-way street", () -> x.cursorSet(2), 0);
    }

    private static void cursorAddAtEnds() {
        Allstreets x = Face.townOf(0, 1, 2, 1, 2, 3, 4, 0, 0, 5, 5, 6);
        Face.walk(x, 0, 0, 0);
        x.cursor(0, 1);
        CHECK.refused(x, "cursorAdd of one in the walk", () -> x.cursorAdd(0));
        CHECK.refused(x, "cursorAdd of one that does not leave", () -> x.cursorAdd(2));
        CHECK.act(x, "cursorAdd at the end, backward", () -> x.cursorAdd(1), 2);
        CHECK.act(x, "cursorAdd at the end, forward", () -> x.cursorAdd(2), 3);
        CHECK.due("steps", Face.stepsOf(x, 0), "0-3-4");
        x.cursor(0, 0);
        CHECK.refused(x, "cursorAdd of one that does not come", () -> x.cursorAdd(5));
        CHECK.act(x, "cursorAdd at 0, forward", () -> x.cursorAdd(3), 1);
        CHECK.due("corners", x.text(0, 0), "4-0-1-2-3");
        CHECK.act(x, "the cursor's act does not lose it", () -> x.cursorGo(false), 6);
        Allstreets b = Face.townOf(0, 1, 0, 2);
        Face.walk(b, 0, 0, 0);
        b.cursor(0, 0);
        CHECK.act(b, "cursorAdd at 0, backward", () -> b.cursorAdd(1), 1);
        CHECK.due("steps", Face.stepsOf(b, 0), "3-0");
        CHECK.due("corners", b.text(0, 0), "2-0-1");
        Allstreets none = Face.townOf(0, 1, 1, 0);
        none.cursor(1, 0);
        CHECK.act(none, "cursorAdd at 0 of 0 leaves END", () -> none.cursorAdd(0), 1);
        CHECK.due("steps", none.text(1, 0), "0-1");
    }

    private static void cursorAddInside() {
        Allstreets x = standing(1);
        CHECK.refused(x, "cursorAdd inside of no loop", () -> x.cursorAdd(5));
        CHECK.act(x, "cursorAdd inside", () -> x.cursorAdd(6), 2);
        CHECK.due("steps", Face.stepsOf(x, 0), "0-12-2-4-7");
        CHECK.refused(x, "cursorAdd leaves no told step", x::cursorRemove);
        Allstreets other = standing(2);
        CHECK.refused(other, "cursorAdd inside of a loop elsewhere", () -> other.cursorAdd(6));
        Allstreets told = standing(0);
        told.cursorGo(true);
        told.cursorAdd(6);
        CHECK.refused(told, "cursorAdd ends the told step", () -> told.cursorSet(0));
    }

    private static void cursorAddOneWay() {
        Allstreets x = Face.townOf(0, 1, 2, 1, 0, 3);
        x.oneWay(true);
        Face.walk(x, 0, 0, 0);
        x.cursor(0, 1);
        CHECK.refused(x, "cursorAdd against a one-way street", () -> x.cursorAdd(1));
        x.cursor(0, 0);
        CHECK.refused(x, "cursorAdd at 0 against a one-way street", () -> x.cursorAdd(2));
    }

    private static void cursorRemoveAtEnds() {
        Allstreets x = standing(4);
        CHECK.refused(x, "cursorRemove without a told step", x::cursorRemove);
        x.cursorGo(false);
        CHECK.act(x, "cursorRemove of the last, ahead of which it stands", x::cursorRemove, 7);
        CHECK.due("place", x.cursorPlace(true), 3);
        CHECK.due("corners", x.text(0, 0), "0-1-2-2");
        x.cursor(0, 0);
        x.cursorGo(true);
        CHECK.act(x, "cursorRemove of the first", x::cursorRemove, 0);
        CHECK.due("place", x.cursorPlace(true), 0);
        CHECK.due("begin is where it came to", x.text(0, 0), "1-2-2");
        CHECK.refused(x, "cursorRemove leaves no told step", x::cursorRemove);
        Allstreets one = Face.townOf(0, 1);
        Face.walk(one, 0, 0, 0);
        one.cursor(0, 0);
        one.cursorGo(true);
        CHECK.act(one, "cursorRemove of the only one", one::cursorRemove, 0);
        CHECK.due("begin stays", one.text(0, 0), "0");
        CHECK.due("place", one.cursorPlace(true), 0);
    }

    private static void cursorRemoveInside() {
        Allstreets x = standing(1);
        x.cursorGo(true);
        CHECK.refused(x, "cursorRemove inside of no loop", x::cursorRemove);
        CHECK.act(x, "the told step outlives a -9", () -> x.cursorSet(1), 2);
        x.cursorGo(true);
        CHECK.act(x, "cursorRemove of a loop inside", x::cursorRemove, 4);
        CHECK.due("steps", Face.stepsOf(x, 0), "0-2-7");
        CHECK.due("place", x.cursorPlace(true), 2);
    }

    private static void cursorRemovePlaces() {
        Allstreets x = standing(3);
        x.cursorGo(false);
        CHECK.due("place ahead of the told step", x.cursorPlace(true), 2);
        CHECK.act(x, "cursorRemove ahead of which it stands", x::cursorRemove, 4);
        CHECK.due("place stays", x.cursorPlace(true), 2);
        Allstreets first = standing(1);
        first.cursorGo(false);
        CHECK.act(first, "cursorRemove of the first, ahead of which it stands", first::cursorRemove, 0);
        CHECK.due("place stays", first.cursorPlace(true), 0);
        CHECK.due("begin", first.cornerAt(0, 0), 1);
        Allstreets last = standing(3);
        last.cursorGo(true);
        CHECK.act(last, "cursorRemove of the last, behind which it stands", last::cursorRemove, 7);
        CHECK.due("place is less by 1", last.cursorPlace(true), 3);
    }

    // Walk 0 is the round 0-1-0 with a cursor at place 1, walk 1 the round 1-2-1; walk 2 has no step.
    private static Allstreets rounds() {
        Allstreets x = Face.townOf(0, 1, 1, 0, 1, 2, 2, 1, 1, 1, 1, 1, 0, 3);
        Face.walk(x, 0, 0, 0, 1);
        Face.walk(x, 1, 1, 2, 3);
        x.cursor(0, 1);
        return x;
    }

    private static void lostAfter(String call, Consumer<Allstreets> act) {
        Allstreets x = rounds();
        act.accept(x);
        CHECK.due("how often -9 in " + call, x.house(1), 0);
        CHECK.due("cursorPlace(true) after " + call, x.cursorPlace(true), -2);
        CHECK.due("cursorPlace(false) after " + call, x.cursorPlace(false), -2);
        CHECK.due("cursorCan(true) after " + call, x.cursorCan(true), false);
        CHECK.due("cursorCan(false) after " + call, x.cursorCan(false), false);
        CHECK.refused(x, "cursorGo(true) after " + call, () -> x.cursorGo(true));
        CHECK.refused(x, "cursorGo(false) after " + call, () -> x.cursorGo(false));
        CHECK.refused(x, "cursorSet after " + call, () -> x.cursorSet(0));
        CHECK.refused(x, "cursorAdd after " + call, () -> x.cursorAdd(5));
        CHECK.refused(x, "cursorRemove after " + call, x::cursorRemove);
    }

    private static void keptAfter(String call, int place, Consumer<Allstreets> act) {
        Allstreets x = rounds();
        act.accept(x);
        CHECK.due("how often -9 in " + call, x.house(1), 0);
        CHECK.due("cursorPlace(true) after " + call, x.cursorPlace(true), place);
    }

    private static void lostByActs() {
        lostAfter("begin", x -> x.begin(0, 0));
        lostAfter("step", x -> x.step(0, 6, false));
        lostAfter("step ahead", x -> x.step(0, 6, true));
        lostAfter("back", x -> x.back(0, false));
        lostAfter("back of the first", x -> x.back(0, true));
        lostAfter("on", x -> x.on(0, true));
        lostAfter("complete", x -> x.complete(0, true));
        lostAfter("splice", x -> x.splice(0, 1, 1));
        lostAfter("splice of its walk", x -> {
            x.cursor(1, 1);
            x.splice(0, 1, 1);
        });
        lostAfter("join", x -> x.join(0, 1));
        lostAfter("join of its walk", x -> {
            x.cursor(1, 1);
            x.join(0, 1);
        });
        lostAfter("cut", x -> x.cut(0, 0, 2, 2));
        lostAfter("cut into its walk", x -> {
            x.cursor(1, 1);
            x.cut(0, 0, 2, 1);
        });
        lostAfter("cut into its walk without steps", x -> {
            x.cursor(2, 0);
            x.cut(0, 0, 2, 2);
        });
        lostAfter("rotate", x -> x.rotate(0, 1));
        lostAfter("rotate once round", x -> x.rotate(0, 2));
        lostAfter("first", x -> x.first(0, 0, true));
        lostAfter("first where there was no step", x -> {
            x.cursor(2, 0);
            x.first(2, 0, false);
        });
        lostAfter("next", x -> {
            x.first(0, 0, true);
            x.cursor(0, 1);
            x.next(0, true);
        });
        lostAfter("copy", x -> x.copy(1, 0));
        lostAfter("copy of no step", x -> x.copy(2, 0));
        lostAfter("copy where there was no step", x -> {
            x.cursor(2, 0);
            x.copy(0, 2);
        });
    }

    private static void lostWithOneStep() {
        lostAfter("begin of one step", x -> {
            x.back(0, false);
            x.cursor(0, 1);
            x.begin(0, 0);
        });
        lostAfter("rotate of one step", x -> {
            x.begin(2, 1);
            x.step(2, 4, false);
            x.cursor(2, 1);
            x.rotate(2, 1);
        });
        lostAfter("copy of no step over one", x -> {
            x.back(0, false);
            x.cursor(0, 1);
            x.copy(2, 0);
        });
        lostAfter("copy of one step over none", x -> {
            x.back(0, false);
            x.cursor(2, 0);
            x.copy(0, 2);
        });
        lostAfter("first of one step over none", x -> {
            x.clear();
            x.lay(0, 0);
            x.cursor(0, 0);
            x.first(0, 0, true);
            x.layRing(5, 0);
        });
    }

    private static void keptByActs() {
        keptAfter("lay", 1, x -> x.lay(0, 1));
        keptAfter("layRing", 1, x -> x.layRing(4, 1));
        keptAfter("close", 1, x -> x.close(4));
        keptAfter("oneWay", 1, x -> x.oneWay(true));
        keptAfter("turnTown", 1, x -> x.turnTown());
        keptAfter("turnRound", 1, x -> x.turnRound(0));
        keptAfter("rotate by 0", 1, x -> x.rotate(0, 0));
        keptAfter("copy from its walk", 1, x -> x.copy(0, 2));
        keptAfter("acts on other walks", 1, x -> {
            x.back(1, true);
            x.on(1, true);
            x.begin(1, 1);
            x.step(2, 6, false);
            x.first(2, 0, true);
            x.next(2, true);
        });
        keptAfter("on that tells 0", 1, x -> {
            x.step(0, 6, false);
            x.cursor(0, 1);
            x.on(0, true);
        });
        keptAfter("complete that tells 0", 1, x -> {
            x.first(0, 0, true);
            x.cursor(0, 1);
            x.complete(0, true);
        });
        keptAfter("begin of a walk without steps", 0, x -> {
            x.cursor(2, 0);
            x.begin(2, 5);
        });
        keptAfter("rotate of a walk without steps", 0, x -> {
            x.cursor(2, 0);
            x.rotate(2, 3);
        });
        keptAfter("copy of no step where there was none", 0, x -> {
            x.begin(1, 4);
            x.cursor(2, 0);
            x.copy(1, 2);
        });
        keptAfter("first without streets", 0, x -> {
            x.clear();
            x.cursor(0, 0);
            x.first(0, 5, true);
        });
        keptAfter("words", -2, x -> x.words(2, 2));
        keptAfter("clear", -2, x -> x.clear());
        Allstreets x = rounds();
        CHECK.refused(x, "step that cannot be done", () -> x.step(0, 2, false));
        CHECK.refused(x, "cut that cannot be done", () -> x.cut(0, 0, 1, 1));
        CHECK.refused(x, "next that cannot be done", () -> x.next(0, true));
        CHECK.refused(x, "copy that cannot be done", () -> x.copy(0, 0));
        CHECK.due("a -9 does not lose it", x.cursorPlace(true), 1);
    }

    private static void lostStaysLost() {
        Allstreets x = rounds();
        x.back(0, false);
        x.step(0, 1, false);
        CHECK.due("lost though all is as it was", x.cursorPlace(true), -2);
        x.turnRound(0);
        CHECK.due("lost after turnRound", x.cursorPlace(true), -2);
        CHECK.act(x, "cursor() again", () -> x.cursor(0, 2), 0);
        CHECK.due("not lost", x.cursorPlace(true), 2);
        CHECK.act(x, "not lost", () -> x.cursorGo(false), 1);
        x.back(0, false);
        x.clear();
        x.lay(0, 1);
        CHECK.due("none after clear", x.cursorPlace(true), -2);
        CHECK.act(x, "cursor() after clear", () -> x.cursor(0, 0), 0);
        CHECK.act(x, "cursorAdd after clear", () -> x.cursorAdd(0), 1);
    }

    private static void toldAfterTurns() {
        Allstreets x = standing(1);
        x.cursorGo(true);
        x.turnRound(0);
        CHECK.due("turned", Face.stepsOf(x, 0), "6-4-3-1");
        CHECK.due("place", x.cursorPlace(true), 2);
        CHECK.act(x, "told is that at its place", x::cursorRemove, 4);
        CHECK.due("steps", Face.stepsOf(x, 0), "6-3-1");
        Allstreets none = standing(0);
        none.turnRound(0);
        CHECK.refused(none, "none was told", none::cursorRemove);
    }
}
