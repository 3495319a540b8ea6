import java.util.ArrayList;
import java.util.List;

/** "Terms" 3, its first part, sentence by sentence: fires, judges who are drawn, what they tell. */
public final class JudgeEdgesTest {
    private static final Check CHECK = new Check();
    private static final int NONE = FireMutual.NONE;

    public static void main(String[] args) {
        twelveFires();
        firesAreOnToday();
        threeJudgesOrAsManyAsCanBe();
        seedsGoRound();
        drawnAmongHowManyTheyAre();
        noKinJudges();
        noJudgeTwice();
        membersOfThatDayJudge();
        hundredthsOfEachEnd();
        nothingTillTold();
        noJudgeNoLoss();
        theMiddleOfThree();
        theLesserOfTwo();
        theOnes();
        closedFiresHearNoMore();
        whatIsSaidIsOfThatFire();
        CHECK.end();
    }

    /** "A FIRE (at most 12)": of one farm or of many, closed ones among them. */
    private static void twelveFires() {
        Mutual x = Scenes.withKins(0, 1);
        for (int i = 0; i < 12; i++) {
            CHECK.due("count(4) ahead", x.count(4), i);
            int fire = i;
            CHECK.dueCall("fire " + i + " is not there", () -> x.look(fire, 0), Check.OUT_OF_BOUNDS);
            CHECK.due("no farm burns", x.fire(2, 0), NONE);
            CHECK.due("fire " + i, x.fire(i % 2, i), i);
            CHECK.due("its farm", x.look(i, 0), i % 2);
        }
        CHECK.due("a thirteenth", x.fire(0, 0), NONE);
        CHECK.due("close(0)", x.close(0), true);
        CHECK.due("closed ones stay", x.fire(0, 0), NONE);
        x.pass(1);
        CHECK.due("on another day too", x.fire(1, 0), NONE);
        CHECK.due("count(4)", x.count(4), 12);
        CHECK.dueCall("fire 12 is not there", () -> x.look(12, 0), Check.OUT_OF_BOUNDS);
        CHECK.due("fire 11 is", x.look(11, 1), 0);
    }

    /** "on TODAY": the first day and the last one. */
    private static void firesAreOnToday() {
        Mutual x = Scenes.withKins(0, 1);
        int[] days = {0, 1, 360, 719};
        for (int i = 0; i < days.length; i++) {
            x.pass(days[i] - x.count(0));
            x.fire(0, 0);
            CHECK.due("a refused pass", x.pass(720), NONE);
            CHECK.due("day of fire " + i, x.look(i, 1), days[i]);
        }
        CHECK.due("and it stays", x.look(0, 1), 0);
    }

    /** "JUDGES, three, or as many as can be". */
    private static void threeJudgesOrAsManyAsCanBe() {
        for (int others = 0; others <= 11; others++) {
            Mutual x = Scenes.withKins(5);
            for (int i = 0; i < others; i++) {
                x.farm(i % 5);
            }
            int due = Math.min(3, others);
            x.fire(0, others);
            CHECK.due("judges of " + others, x.look(0, 2), due);
            for (int k = 0; k < due; k++) {
                int judge = x.judge(0, k);
                CHECK.due("a judge of " + others, judge >= 1 && judge <= others, true);
            }
            CHECK.dueCall("one more of " + others, () -> x.judge(0, due), Check.NO_SUCH_ELEMENT);
            CHECK.dueCall("judge -1 of " + others, () -> x.judge(0, -1), Check.NO_SUCH_ELEMENT);
            CHECK.due("one more says", x.say(0, due, 0, 5), false);
        }
    }

    /** "x becomes 1103515245 x + 12345 (32 bits, round)": beside what 64 bits say, numbers reckoned by hand. */
    private static void seedsGoRound() {
        int[] seeds = {
            0, 1, 2, -1, -2, 0x7fff, 0x8000, 0xffff, 0x10000, Integer.MAX_VALUE, Integer.MAX_VALUE - 1, Integer.MIN_VALUE,
            Integer.MIN_VALUE + 1, 1103515245, -1103515245, 12345, -12345, 0x5a5a5a5a
        };
        for (int seed : seeds) {
            Mutual x = Scenes.withKins(0, 1, 2, 3, 4, 5, 6, 7, 8, 9, 1, 2);
            x.fire(0, seed);
            drawn("seed " + seed, x, 0, seed, 1, 2, 3, 4, 5, 6, 7, 8, 9, 10, 11);
        }
        // Seed 0: x is 12345, 3554416254, 2802067423; by 65536 and 32768: 0, 21468, 9988.
        Mutual x = Scenes.withKins(0, 1, 2, 3, 4, 5, 6, 7, 8, 9, 1, 2);
        x.fire(0, 0);
        CHECK.due("0 of 11", x.judge(0, 0), 1);
        CHECK.due("21468 of 10, the ninth of those left", x.judge(0, 1), 10);
        CHECK.due("9988 of 9, the eighth of those left", x.judge(0, 2), 9);
        // Seed -1: x is 3191464396, 288979989, 646343466; by 65536 and 32768: 15929, 4409, 9862.
        x.fire(0, -1);
        CHECK.due("15929 of 11, the second", x.judge(1, 0), 2);
        CHECK.due("4409 of 10, the tenth of those left", x.judge(1, 1), 11);
        CHECK.due("9862 of 9, the eighth of those left", x.judge(1, 2), 9);
    }

    private static void drawn(String what, Mutual x, int fire, int seed, int... row) {
        List<Integer> left = new ArrayList<>();
        for (int farm : row) {
            left.add(farm);
        }
        long s = seed & 0xffffffffL;
        int many = Math.min(3, row.length);
        for (int k = 0; k < many; k++) {
            s = Math.floorMod(1103515245L * s + 12345L, 1L << 32);
            int due = left.remove((int) (s / 65536 % 32768 % left.size()));
            CHECK.due("judge " + k + ", " + what, x.judge(fire, k), due);
        }
        CHECK.due("how many, " + what, x.look(fire, 2), many);
    }

    /** "number .. modulo how many they are", which are one fewer with each judge. */
    private static void drawnAmongHowManyTheyAre() {
        int[] kins = {1, 2, 3, 4, 5, 6, 7, 8, 9, 1, 2};
        for (int many = 1; many <= 11; many++) {
            Mutual x = Scenes.withKins(0);
            int[] row = new int[many];
            for (int i = 0; i < many; i++) {
                row[i] = x.farm(kins[i]);
            }
            for (int fire = 0; fire < 12; fire++) {
                int seed = 987654321 * (fire + 12 * many);
                x.fire(0, seed);
                drawn(many + " farms, seed " + seed, x, fire, seed, row);
            }
        }
    }

    /** "not of its KIN": the farm itself and all of its kin are left out, the others keep their order. */
    private static void noKinJudges() {
        for (int seed = -20; seed < 20; seed++) {
            Mutual x = Scenes.withKins(3, 0, 3, 1, 3, 2, 0, 3);
            x.fire(2, seed);
            drawn("kin 3, seed " + seed, x, 0, seed, 1, 3, 5, 6);
            x.fire(1, seed);
            drawn("kin 0, seed " + seed, x, 1, seed, 0, 2, 3, 4, 5, 7);
        }
        Mutual y = Scenes.withKins(9, 9, 9, 9, 9, 9, 9, 9, 9, 9, 9, 9);
        y.fire(11, 5);
        CHECK.due("all are kin", y.look(0, 2), 0);
        Mutual z = Scenes.withKins(9);
        z.fire(0, 5);
        CHECK.due("alone", z.look(0, 2), 0);
    }

    /** "not judges yet", of this fire; of another they may be. */
    private static void noJudgeTwice() {
        Mutual x = Scenes.withKins(0, 1, 1, 1);
        for (int fire = 0; fire < 12; fire++) {
            x.fire(0, fire * 31 - 100);
            int a = x.judge(fire, 0);
            int b = x.judge(fire, 1);
            int c = x.judge(fire, 2);
            CHECK.due("all three judge", a != b && b != c && a != c, true);
            CHECK.due("they are 1, 2, 3", a + b + c, 6);
        }
    }

    /** "of FARMS that are members that DAY (KNOWN then)". */
    private static void membersOfThatDayJudge() {
        Mutual x = Scenes.withKins(0, 1);
        x.pass(5);
        x.farm(2);
        x.fire(0, 9);
        drawn("who came that day judges", x, 0, 9, 1, 2);
        x.farm(3);
        CHECK.due("who comes behind the fire does not", x.look(0, 2), 2);
        x.pass(1);
        x.farm(4);
        CHECK.due("nor who comes later", x.look(0, 2), 2);
        drawn("those drawn stay", x, 0, 9, 1, 2);
        x.fire(0, 9);
        drawn("the next fire has all", x, 1, 9, 1, 2, 3, 4);
    }

    /** "the hundredths lost (0 .. 100; ..)". */
    private static void hundredthsOfEachEnd() {
        Mutual x = Scenes.withKins(0, 1);
        x.fire(0, 0);
        for (int kind = 0; kind < 4; kind++) {
            CHECK.due("100", x.say(0, 0, kind, 100), true);
            for (int wrong : new int[] {101, -1, 102, 1000, Integer.MIN_VALUE, Integer.MAX_VALUE}) {
                CHECK.due(wrong + " hundredths", x.say(0, 0, kind, wrong), false);
                CHECK.due("100 stays", x.look(0, 4 + kind), 100);
            }
            CHECK.due("0", x.say(0, 0, kind, 0), true);
            CHECK.due("0 is there", x.look(0, 4 + kind), 0);
            CHECK.due("1", x.say(0, 0, kind, 1), true);
            CHECK.due("1 is there", x.look(0, 4 + kind), 1);
        }
        CHECK.due("class 4", x.say(0, 0, 4, 50), false);
        CHECK.due("class -1", x.say(0, 0, -1, 50), false);
        for (int kind = 0; kind < 4; kind++) {
            CHECK.due("nothing said of another class", x.look(0, 4 + kind), 1);
        }
    }

    /** "0 till told": by each judge, of each class. */
    private static void nothingTillTold() {
        Mutual x = Scenes.withKins(0, 1, 2, 3);
        x.fire(0, 0);
        for (int kind = 0; kind < 4; kind++) {
            CHECK.due("none has told", x.look(0, 4 + kind), 0);
            x.say(0, kind % 3, kind, 80);
            CHECK.due("one has", x.look(0, 4 + kind), 0);
            x.say(0, (kind + 1) % 3, kind, 70);
            CHECK.due("two have", x.look(0, 4 + kind), 70);
            x.say(0, (kind + 2) % 3, kind, 75);
            CHECK.due("all have", x.look(0, 4 + kind), 75);
        }
    }

    /** "with no JUDGE all is 0". */
    private static void noJudgeNoLoss() {
        Mutual x = Scenes.withKins(4, 4);
        x.note(0, 0, 0, 10000);
        x.note(1, 0, 0, 10000);
        x.fire(0, 0);
        for (int k = -1; k <= 3; k++) {
            CHECK.due("say of judge " + k, x.say(0, k, 0, 100), false);
        }
        for (int kind = 0; kind < 4; kind++) {
            CHECK.due("lost", x.look(0, 4 + kind), 0);
        }
        for (int what = 0; what <= 5; what++) {
            CHECK.due("award " + what, x.award(0, 0, what), 0);
        }
        CHECK.due("call", x.call(0, 1, 0), 0);
        CHECK.due("close", x.close(0), true);
        CHECK.due("nothing to book", x.book(), 0);
        x.farm(5);
        CHECK.due("who comes later does not judge", x.look(0, 2), 0);
    }

    /** "the middle of three": all orders, with like ones and the ends. */
    private static void theMiddleOfThree() {
        int[] values = {0, 1, 50, 99, 100};
        for (int a : values) {
            Mutual x = Scenes.withKins(0, 1, 2, 3);
            x.fire(0, 0);
            for (int b : values) {
                for (int c : values) {
                    x.say(0, 0, 1, a);
                    x.say(0, 1, 1, b);
                    x.say(0, 2, 1, c);
                    int[] row = {a, b, c};
                    java.util.Arrays.sort(row);
                    CHECK.due("middle of " + a + ", " + b + ", " + c, x.look(0, 5), row[1]);
                }
            }
        }
    }

    /** "the lesser of two". */
    private static void theLesserOfTwo() {
        int[] values = {0, 1, 50, 99, 100};
        Mutual x = Scenes.withKins(0, 1, 2, 0);
        x.fire(3, 0);
        CHECK.due("two judge", x.look(0, 2), 2);
        for (int a : values) {
            for (int b : values) {
                x.say(0, 0, 2, a);
                x.say(0, 1, 2, b);
                CHECK.due("lesser of " + a + ", " + b, x.look(0, 6), a < b ? a : b);
            }
        }
    }

    /** "the one's". */
    private static void theOnes() {
        Mutual x = Scenes.withKins(0, 1, 0);
        x.fire(2, 0);
        CHECK.due("one judges", x.look(0, 2), 1);
        for (int a : new int[] {100, 0, 1, 99}) {
            x.say(0, 0, 3, a);
            CHECK.due("the one's " + a, x.look(0, 7), a);
        }
    }

    /** "CLOSED (its JUDGES tell no more)". */
    private static void closedFiresHearNoMore() {
        Mutual x = Scenes.withKins(0, 1, 2, 3);
        x.note(0, 0, 0, 100);
        x.fire(0, 0);
        x.fire(0, 0);
        for (int k = 0; k < 3; k++) {
            x.say(0, k, 0, 40);
        }
        CHECK.due("open", x.look(0, 3), 0);
        CHECK.due("close", x.close(0), true);
        CHECK.due("closed", x.look(0, 3), 1);
        for (int k = -1; k <= 3; k++) {
            for (int kind = -1; kind <= 4; kind++) {
                CHECK.due("judge " + k + " of class " + kind, x.say(0, k, kind, 90), false);
            }
        }
        CHECK.due("lost stays", x.look(0, 4), 40);
        CHECK.due("award stays", x.award(0, 0, 0), 40);
        CHECK.due("close again", x.close(0), false);
        CHECK.due("it stays closed", x.look(0, 3), 1);
        CHECK.due("the other is open", x.say(1, 2, 0, 90), true);
        x.pass(719);
        CHECK.due("on the last day too", x.say(0, 0, 0, 90), false);
    }

    /** What is said is of that fire, judge and class alone. */
    private static void whatIsSaidIsOfThatFire() {
        Mutual x = Scenes.withKins(0, 1);
        for (int fire = 0; fire < 12; fire++) {
            x.fire(0, fire);
        }
        for (int fire = 0; fire < 12; fire++) {
            for (int kind = 0; kind < 4; kind++) {
                CHECK.due("say", x.say(fire, 0, kind, 4 * fire + kind + 1), true);
            }
        }
        for (int fire = 0; fire < 12; fire++) {
            for (int kind = 0; kind < 4; kind++) {
                CHECK.due("lost of fire " + fire + ", class " + kind, x.look(fire, 4 + kind), 4 * fire + kind + 1);
            }
        }
    }
}
