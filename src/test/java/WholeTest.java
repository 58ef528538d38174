/** Promises 46 to 49: house(), knock(), isSound() and digest(). */
public final class WholeTest {
    private static final Check CHECK = new Check();

    public static void main(String[] args) {
        houseAndKnock();
        sound();
        digestOfNew();
        digestChanges();
        digestOfTowns();
        CHECK.end();
    }

    private static void houseAndKnock() {
        Allstreets x = new Allstreets();
        CHECK.due("knock()", x.knock(), 1);
        CHECK.due("knock()", x.knock(), 2);
        CHECK.due("house(2)", x.house(2), 2);
        CHECK.due("knocking is no act", x.house(0), 0);
        x.lay(0, 1);
        x.oneWay(false);
        x.back(0, true);
        CHECK.due("house(0), also if nothing became another", x.house(0), 2);
        CHECK.due("house(1)", x.house(1), 1);
        CHECK.throwsArgument(x, "house(3)", () -> x.house(3));
        CHECK.throwsArgument(x, "house(-1)", () -> x.house(-1));
        CHECK.throwsIndex(x, "what throws is not counted", () -> x.lay(10, 10));
        x.clear();
        x.words(2, 2);
        x.on(0, true);
        x.cursor(0, 0);
        x.cursorGo(true);
        CHECK.due("house(0) counts on", x.house(0), 7);
        x.cursorGo(true);
        x.cursorGo(false);
        x.cursorGo(false);
        x.cursorGo(false);
        CHECK.due("house(0) counts on", x.house(0), 10);
        CHECK.due("house(1) counts on", x.house(1), 2);
        CHECK.due("house(2) stays", x.house(2), 2);
    }

    private static void sound() {
        Allstreets x = new Allstreets();
        CHECK.due("isSound() new", x.isSound(), true);
        for (int street = 0; street < 30; street++) {
            x.lay(street * 7 % 10, street * street % 10);
            CHECK.due("isSound() free", x.isSound(), true);
            x.oneWay(true);
            CHECK.due("isSound() one-way", x.isSound(), true);
            x.oneWay(false);
            CHECK.due("isSound() is no act", x.house(0), 3 * street + 3);
        }
        int[][] words = {{2, 1}, {2, 2}, {2, 3}, {2, 4}, {3, 1}, {3, 2}, {3, 3}, {4, 1}, {4, 2}, {5, 1}, {5, 2}};
        for (int[] town : words) {
            x.words(town[0], town[1]);
            CHECK.due("isSound() of words", x.isSound(), true);
            x.complete(0, false);
            CHECK.due("isSound() of words with a walk", x.isSound(), true);
            x.oneWay(false);
            CHECK.due("isSound() of words made free", x.isSound(), true);
            x.complete(1, true);
            x.turnRound(1);
            CHECK.due("isSound() with a walk turned", x.isSound(), true);
        }
    }

    private static void digestOfNew() {
        Allstreets x = new Allstreets();
        long d = 7692;
        d = d * 31;
        for (int corner = 0; corner < 10; corner++) {
            d = d * 31 * 31 * 31 + 1;
        }
        int[] rest = {0, 1, 2, 0, 0, 0, 0, 0, 0, 1, 0, 0, 0, 0, 1, 0, 0, 0, 0, 1, 0, -2, -2, 0, 0, 0, 0, 0, 1};
        for (int value : rest) {
            d = d * 31 + value;
        }
        CHECK.due("digest() new", x.digest(), d);
        CHECK.due("digest() by the others", Face.digestOf(x), d);
    }

    private static void digestChanges() {
        digestIsDueAfterEach("lay 0 1; lay 1 2; lay 2 0; lay 3 0; step 0 0 false; step 0 1 false; step 0 2 false; copy 0 1; "
            + "rotate 1 1; copy 1 2; rotate 2 1; first 1 3 true; cursor 1 2; cursorGo true; knock; back 1 true; "
            + "cursorGo true; words 3 2; first 2 1 false; cursor 2 9");
    }

    private static void digestOfTowns() {
        StringBuilder run = new StringBuilder();
        for (int street = 0; street < 30; street++) {
            int walk = street % 3;
            run.append("lay ").append(street * 3 % 10).append(' ').append((street * 5 + 1) % 10).append("; ");
            run.append("on ").append(walk).append(street % 2 == 0 ? " true; " : " false; ");
            run.append("cursor ").append(walk).append(street < 15 ? " 0; " : " 1; ");
        }
        digestIsDueAfterEach(run.toString());
    }

    // On a new object each time: to ask for all that the checksum is made of takes many calls.
    private static void digestIsDueAfterEach(String run) {
        String[] calls = run.split("; ");
        for (int many = 1; many <= calls.length; many++) {
            Allstreets x = new Allstreets();
            for (int i = 0; i < many; i++) {
                Calls.answer(x, calls[i]);
            }
            long first = x.digest();
            CHECK.due(calls[many - 1] + ", then digest()", first, Face.digestOf(x));
            CHECK.due(calls[many - 1] + ", then digest() again", x.digest(), first);
        }
    }
}
