/** Promises 11 to 15: fire, judge, say, close, look. */
public final class FiresTest {
    private static final Check CHECK = new Check();

    public static void main(String[] args) {
        firesBegin();
        judgesAreDrawn();
        judgesAreNoKin();
        judgesAreKnownThen();
        judgesRefused();
        saying();
        lostByThree();
        lostByTwoAndOne();
        closing();
        looking();
        CHECK.end();
    }

    private static void firesBegin() {
        Mutual x = new Mutual();
        CHECK.due("no farm", x.fire(0, 0), -1);
        x.farm(0);
        CHECK.due("farm 1", x.fire(1, 0), -1);
        CHECK.due("farm -1", x.fire(-1, 0), -1);
        for (int i = 0; i < 12; i++) {
            CHECK.due("fire " + i, x.fire(0, Integer.MIN_VALUE + i), i);
        }
        CHECK.due("a thirteenth", x.fire(0, 0), -1);
        CHECK.due("count(4)", x.count(4), 12);
    }

    /** The draw by hand: the farms in a row, the drawn one taken out of it. */
    private static void judgesAreDrawn() {
        int[] seeds = {0, 1, 7, -1, 12345, Integer.MAX_VALUE, Integer.MIN_VALUE, 987654321, -55555};
        for (int seed : seeds) {
            Mutual x = Scenes.withKins(0, 1, 2, 3, 4, 5, 6, 7, 8, 9, 0, 1);
            int fire = x.fire(3, seed);
            java.util.List<Integer> row = new java.util.ArrayList<>();
            for (int i = 0; i < 12; i++) {
                if (i != 3) {
                    row.add(i);
                }
            }
            long s = seed & 0xffffffffL;
            for (int k = 0; k < 3; k++) {
                s = (1103515245L * s + 12345L) & 0xffffffffL;
                int due = row.remove((int) ((s >> 16) % 32768 % row.size()));
                CHECK.dueCall("judge " + k + " of seed " + seed, askJudge(x, fire, k), due);
            }
        }
        Mutual x = Scenes.withKins(0, 1, 2, 3, 4, 5, 6, 7, 8, 9, 0, 1);
        x.fire(0, 1);
        // x is 1103527590, 2524885223, 662824084: 16838 of 10, 5758 of 9, 10113 of 8 are left.
        CHECK.dueCall("judge 0 of seed 1", askJudge(x, 0, 0), 9);
        CHECK.dueCall("judge 1 of seed 1", askJudge(x, 0, 1), 8);
        CHECK.dueCall("judge 2 of seed 1", askJudge(x, 0, 2), 2);
    }

    private static Check.Call askJudge(Mutual x, int fire, int k) {
        return () -> x.judge(fire, k);
    }

    private static void judgesAreNoKin() {
        Mutual x = Scenes.withKins(4, 4, 5, 4, 5);
        CHECK.due("fire", x.fire(0, 99), 0);
        CHECK.dueCall("two are no kin", () -> x.look(0, 2), 2);
        long first = Check.ask(() -> x.judge(0, 0));
        long second = Check.ask(() -> x.judge(0, 1));
        CHECK.due("they are 2 and 4", Math.min(first, second) * 10 + Math.max(first, second), 24);
        CHECK.due("fire", x.fire(2, 99), 1);
        CHECK.dueCall("three are no kin", () -> x.look(1, 2), 3);
        Mutual y = Scenes.withKins(4, 4);
        y.fire(1, 0);
        CHECK.dueCall("none is no kin", () -> y.look(0, 2), 0);
    }

    private static void judgesAreKnownThen() {
        Mutual x = Scenes.withKins(0, 1);
        x.fire(0, 5);
        x.farm(2);
        x.farm(3);
        CHECK.dueCall("who came later does not judge", () -> x.look(0, 2), 1);
        CHECK.dueCall("judge", () -> x.judge(0, 0), 1);
        x.fire(0, 5);
        CHECK.dueCall("but the next one", () -> x.look(1, 2), 3);
    }

    private static void judgesRefused() {
        Mutual x = Scenes.withKins(0, 1);
        CHECK.dueCall("no fire", () -> x.judge(0, 0), Check.OUT_OF_BOUNDS);
        CHECK.dueCall("no fire, no judge", () -> x.judge(-1, 9), Check.OUT_OF_BOUNDS);
        x.fire(0, 5);
        CHECK.dueCall("judge(0, 0)", () -> x.judge(0, 0), 1);
        CHECK.dueCall("judge(0, 1)", () -> x.judge(0, 1), Check.NO_SUCH_ELEMENT);
        CHECK.dueCall("judge(0, -1)", () -> x.judge(0, -1), Check.NO_SUCH_ELEMENT);
        CHECK.dueCall("judge(1, 0)", () -> x.judge(1, 0), Check.OUT_OF_BOUNDS);
        CHECK.dueCall("judge(MAX, 0)", () -> x.judge(Integer.MAX_VALUE, 0), Check.OUT_OF_BOUNDS);
    }

    private static void saying() {
        Mutual x = Scenes.withKins(0, 1, 2);
        CHECK.due("no fire", x.say(0, 0, 0, 0), false);
        x.fire(0, 5);
        CHECK.due("fire -1", x.say(-1, 0, 0, 0), false);
        CHECK.due("fire 1", x.say(1, 0, 0, 0), false);
        CHECK.due("judge 2", x.say(0, 2, 0, 0), false);
        CHECK.due("judge -1", x.say(0, -1, 0, 0), false);
        CHECK.due("class 4", x.say(0, 0, 4, 0), false);
        CHECK.due("class -1", x.say(0, 1, -1, 50), false);
        CHECK.due("101", x.say(0, 0, 0, 101), false);
        CHECK.due("-1", x.say(0, 0, 0, -1), false);
        CHECK.due("0", x.say(0, 0, 0, 0), true);
        CHECK.due("100", x.say(0, 0, 3, 100), true);
        CHECK.due("the other", x.say(0, 1, 3, 100), true);
        CHECK.dueCall("lost of hay", () -> x.look(0, 7), 100);
        CHECK.due("in place of it", x.say(0, 1, 3, 30), true);
        CHECK.dueCall("lost of hay", () -> x.look(0, 7), 30);
        CHECK.dueCall("lost of a house", () -> x.look(0, 4), 0);
        x.close(0);
        CHECK.due("closed", x.say(0, 1, 3, 40), false);
        CHECK.dueCall("lost of hay", () -> x.look(0, 7), 30);
    }

    private static void lostByThree() {
        int[][] said = {{1, 2, 3}, {1, 3, 2}, {2, 1, 3}, {2, 3, 1}, {3, 1, 2}, {3, 2, 1}, {5, 5, 1}, {5, 1, 5}, {1, 5, 5}};
        int[] due = {2, 2, 2, 2, 2, 2, 5, 5, 5};
        Mutual x = Scenes.withKins(0, 1, 2, 3);
        x.fire(0, 5);
        x.say(0, 0, 1, 100);
        CHECK.dueCall("one of three has told", () -> x.look(0, 5), 0);
        x.say(0, 2, 1, 70);
        CHECK.dueCall("two of three have told", () -> x.look(0, 5), 70);
        for (int i = 0; i < said.length; i++) {
            for (int k = 0; k < 3; k++) {
                x.say(0, k, 2, said[i][k]);
            }
            CHECK.dueCall("the middle of row " + i, () -> x.look(0, 6), due[i]);
        }
    }

    private static void lostByTwoAndOne() {
        Mutual x = Scenes.withKins(0, 1, 2);
        x.fire(0, 5);
        x.say(0, 0, 0, 60);
        CHECK.dueCall("one of two has told", () -> x.look(0, 4), 0);
        x.say(0, 1, 0, 40);
        CHECK.dueCall("the lesser of two", () -> x.look(0, 4), 40);
        x.say(0, 0, 0, 20);
        CHECK.dueCall("the lesser of two", () -> x.look(0, 4), 20);
        Mutual y = Scenes.withKins(0, 1);
        y.fire(0, 5);
        y.say(0, 0, 0, 60);
        CHECK.dueCall("the one's", () -> y.look(0, 4), 60);
    }

    private static void closing() {
        Mutual x = Scenes.withKins(0, 1);
        CHECK.due("no fire", x.close(0), false);
        x.fire(0, 0);
        x.fire(0, 0);
        CHECK.due("close(-1)", x.close(-1), false);
        CHECK.due("close(2)", x.close(2), false);
        CHECK.due("close(1)", x.close(1), true);
        CHECK.due("close(1) again", x.close(1), false);
        CHECK.dueCall("fire 1", () -> x.look(1, 3), 1);
        CHECK.dueCall("fire 0", () -> x.look(0, 3), 0);
        CHECK.due("fire 0 is open", x.say(0, 0, 0, 9), true);
    }

    private static void looking() {
        Mutual x = Scenes.withKins(0, 1, 2, 3);
        CHECK.dueCall("no fire", () -> x.look(0, 0), Check.OUT_OF_BOUNDS);
        CHECK.dueCall("no fire, no what", () -> x.look(-1, 99), Check.OUT_OF_BOUNDS);
        x.pass(41);
        x.fire(2, 6);
        x.pass(9);
        for (int kind = 0; kind < 4; kind++) {
            for (int k = 0; k < 3; k++) {
                x.say(0, k, kind, 10 + kind);
            }
        }
        int[] due = {2, 41, 3, 0, 10, 11, 12, 13};
        for (int i = 0; i < due.length; i++) {
            int what = i;
            CHECK.dueCall("look(0, " + what + ")", () -> x.look(0, what), due[what]);
        }
        CHECK.dueCall("look(0, 8)", () -> x.look(0, 8), Check.NO_SUCH_ELEMENT);
        CHECK.dueCall("look(0, -1)", () -> x.look(0, -1), Check.NO_SUCH_ELEMENT);
        CHECK.dueCall("look(1, 0)", () -> x.look(1, 0), Check.OUT_OF_BOUNDS);
        CHECK.dueCall("look(MIN, 0)", () -> x.look(Integer.MIN_VALUE, 0), Check.OUT_OF_BOUNDS);
    }
}
