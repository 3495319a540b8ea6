/** Promises 16 to 21: award, call, book, booked, account, count. */
public final class MoneyTest {
    private static final Check CHECK = new Check();

    public static void main(String[] args) {
        awardIsCutTwice();
        awardSumsWhatIsPaid();
        awardBySeason();
        awardTakesOffRoundedUp();
        awardIsOfTheFiresDay();
        awardAsKnown();
        awardRefused();
        partsInTurn();
        callsByWeight();
        callsOfLikeCuts();
        callsWithoutWeight();
        callsOnMembersOnly();
        callsRefused();
        largestSums();
        bookings();
        bookingsOfDifferences();
        bookingsByFiresThenFarms();
        mostBookings();
        accountsRefused();
        counts();
        CHECK.end();
    }

    private static void awardIsCutTwice() {
        // 199 * 0.5 is 99.5, cut 99; 99 * 199 / 200 is 98.505.
        CHECK.due("199 and 1, half lost", Scenes.burning(199, 1, 50).award(0, 0, 0), 98);
        // 101 * 0.99 is 99.99, cut 99; 99 * 101 / 102 is 98.03. Uncut it would be 99.009.
        CHECK.due("101 and 1, 99 lost", Scenes.burning(101, 1, 99).award(0, 0, 0), 98);
        CHECK.due("nothing elsewhere", Scenes.burning(777, 0, 100).award(0, 0, 0), 777);
        CHECK.due("nothing at all", Scenes.burning(0, 0, 100).award(0, 0, 0), 0);
        CHECK.due("only elsewhere", Scenes.burning(0, 500, 100).award(0, 0, 0), 0);
        CHECK.due("nothing lost", Scenes.burning(777, 0, 0).award(0, 0, 0), 0);
        CHECK.due("a coin's part", Scenes.burning(99, 0, 1).award(0, 0, 0), 0);
        CHECK.due("a coin", Scenes.burning(100, 0, 1).award(0, 0, 0), 1);
        CHECK.due("a house of one coin", Scenes.burning(1, 0, 100).award(0, 0, 0), 1);
    }

    private static void awardSumsWhatIsPaid() {
        Mutual x = new Mutual();
        x.farm(0);
        x.farm(1);
        x.fire(0, 0);
        for (int kind = 0; kind < 4; kind++) {
            x.note(0, kind, 0, 150 + kind);
            x.say(0, 0, kind, 50);
        }
        CHECK.due("each class is cut by itself", x.award(0, 0, 0), 75 + 75 + 76 + 76);
        x.note(0, 6, 0, 152);
        CHECK.due("beasts are doubled", x.award(0, 0, 0), 75 + 75 + 38 + 76);
        Check.vote(x, "none barn; none hay;", 0);
        CHECK.due("barns and hay are not paid", x.award(0, 0, 0), 75 + 38);
        CHECK.due("but weigh", x.call(0, 0, 0), 113);
        Check.vote(x, "rate house 0; rate beasts 0; rate barn 0; rate hay 1;", 0);
        x.note(1, 3, 0, 153);
        CHECK.due("hay alone weighs", x.call(0, 0, 0), 57);
        CHECK.due("hay alone weighs", x.call(0, 1, 0), 56);
    }

    private static void awardBySeason() {
        Mutual x = new Mutual();
        x.farm(0);
        x.farm(1);
        x.note(0, 3, 0, 333);
        Check.vote(x, "season hay: 10,20,30,40,50,60,70,80,90,100,110,1000;", 0);
        x.pass(59);
        x.fire(0, 0);
        x.say(0, 0, 3, 50);
        CHECK.due("month 1: 333 * 0.2 * 0.5 is 33.3", x.award(0, 59, 0), 33);
        x.pass(1);
        x.fire(0, 0);
        x.say(1, 0, 3, 50);
        CHECK.due("month 2: 333 * 0.3 * 0.5 is 49.95", x.award(1, 60, 0), 49);
        x.pass(270);
        x.fire(0, 0);
        x.say(2, 0, 3, 100);
        CHECK.due("month 11: ten times", x.award(2, 330, 0), 3330);
        CHECK.due("the first stays as it is", x.award(0, 330, 0), 33);
    }

    private static void awardTakesOffRoundedUp() {
        Mutual x = Scenes.burning(101, 0, 100);
        Check.vote(x, "duty 5 less 10;", 0);
        CHECK.due("10.1 of 101, rounded up", x.award(0, 0, 0), 90);
        x.note(0, 8, 0, 4);
        CHECK.due("4 buckets", x.award(0, 0, 0), 90);
        x.note(0, 8, 0, 5);
        CHECK.due("5 buckets", x.award(0, 0, 0), 101);
        x.note(0, 8, 0, 6);
        CHECK.due("6 buckets", x.award(0, 0, 0), 101);
        x.note(0, 8, 0, 0);
        Check.vote(x, "own 1;", 0);
        CHECK.due("and 0.9 of 90, rounded up", x.award(0, 0, 0), 89);
        x.note(0, 8, 0, 5);
        CHECK.due("1.01 of 101, rounded up", x.award(0, 0, 0), 99);
        x.note(0, 8, 0, 0);
        x.note(0, 0, 0, 100);
        CHECK.due("10 of 100, 0.9 of 90", x.award(0, 0, 0), 89);
        Check.vote(x, "own 10;", 0);
        CHECK.due("10 of 100, 9 of 90", x.award(0, 0, 0), 81);
        Check.vote(x, "own 100;", 0);
        CHECK.due("all", x.award(0, 0, 0), 0);
        Check.vote(x, "own 0; duty 1 less 100;", 0);
        CHECK.due("all by duty", x.award(0, 0, 0), 0);
        Check.vote(x, "duty 0 less 100;", 0);
        CHECK.due("no duty", x.award(0, 0, 0), 100);
    }

    private static void awardIsOfTheFiresDay() {
        Mutual x = new Mutual();
        x.farm(0);
        x.farm(1);
        x.note(0, 0, 0, 100);
        x.note(0, 0, 10, 200);
        x.note(0, 0, 11, 400);
        Check.vote(x, "own 50;", 11);
        x.pass(10);
        x.fire(0, 0);
        x.say(0, 0, 0, 100);
        x.pass(10);
        CHECK.due("worth and law of day 10", x.award(0, 20, 0), 200);
    }

    private static void awardAsKnown() {
        Mutual x = Scenes.burning(1000, 0, 100);
        x.pass(5);
        x.note(0, 0, 0, 2000);
        x.pass(5);
        Check.vote(x, "own 10;", 0);
        x.pass(5);
        x.undo(0);
        CHECK.due("known on 0", x.award(0, 0, 0), 1000);
        CHECK.due("known on 4", x.award(0, 4, 0), 1000);
        CHECK.due("known on 5", x.award(0, 5, 0), 2000);
        CHECK.due("known on 10", x.award(0, 10, 0), 1800);
        CHECK.due("known on 14", x.award(0, 14, 0), 1800);
        CHECK.due("known on 15", x.award(0, 15, 0), 2000);
        x.say(0, 0, 0, 50);
        CHECK.due("what judges say holds for all days", x.award(0, 0, 0), 500);
    }

    private static void awardRefused() {
        Mutual x = new Mutual();
        CHECK.due("no fire", x.award(0, 0, 0), -1);
        x.farm(0);
        x.pass(3);
        x.fire(0, 0);
        x.pass(1);
        CHECK.due("fire 1", x.award(1, 3, 0), -1);
        CHECK.due("fire -1", x.award(-1, 3, 0), -1);
        CHECK.due("what 6", x.award(0, 3, 6), -1);
        CHECK.due("what -1", x.award(0, 3, -1), -1);
        CHECK.due("ahead of the fire", x.award(0, 2, 0), -1);
        CHECK.due("beyond today", x.award(0, 5, 0), -1);
        CHECK.due("known 3", x.award(0, 3, 0), 0);
        CHECK.due("known 4", x.award(0, 4, 5), 0);
    }

    private static void parts(Mutual x, int fire, long... due) {
        for (int what = 0; what < due.length; what++) {
            CHECK.due("award(" + fire + ", 0, " + what + ")", x.award(fire, 0, what), due[what]);
        }
    }

    private static void partsInTurn() {
        Mutual x = new Mutual();
        x.farm(0);
        x.farm(1);
        x.note(0, 0, 0, 1000);
        for (int fire = 0; fire < 5; fire++) {
            x.fire(0, 0);
            x.say(fire, 0, 0, 50);
        }
        parts(x, 0, 500, 0, 0, 0, 0, 500);
        Check.vote(x, "reserve 100; other 0 150; other 1 200; other 2 250;", 0);
        parts(x, 0, 500, 100, 150, 200, 50, 0);
        parts(x, 1, 500, 100, 0, 200, 200, 0);
        parts(x, 2, 500, 100, 150, 0, 250, 0);
        parts(x, 3, 500, 100, 150, 200, 50, 0);
        parts(x, 4, 500, 100, 0, 200, 200, 0);
        Check.vote(x, "reserve 500;", 0);
        parts(x, 1, 500, 500, 0, 0, 0, 0);
        Check.vote(x, "reserve 499;", 0);
        parts(x, 2, 500, 499, 0, 0, 1, 0);
        Check.vote(x, "reserve 1; other 0 2; other 1 3; other 2 4;", 0);
        parts(x, 1, 500, 1, 2, 3, 4, 490);
    }

    private static void callsByWeight() {
        Mutual x = Scenes.burning(1000, 0, 100);
        x.note(1, 3, 0, 500);
        Check.vote(x, "rate house 1; rate hay 6;", 0);
        CHECK.due("1000 of 4000", x.call(0, 0, 0), 250);
        CHECK.due("3000 of 4000", x.call(0, 1, 0), 750);
        Check.vote(x, "reserve 1; rate hay 4;", 0);
        // 999 by 1000 and 2000 of 3000
        CHECK.due("1000 of 3000", x.call(0, 0, 0), 333);
        CHECK.due("2000 of 3000", x.call(0, 1, 0), 666);
        x.note(0, 4, 0, 1000);
        Check.vote(x, "reserve 0;", 0);
        // What is insured elsewhere halves the award, not the weight: 500 by 1 and 2.
        CHECK.due("166.67", x.call(0, 0, 0), 167);
        CHECK.due("333.33", x.call(0, 1, 0), 333);
    }

    private static void callsOfLikeCuts() {
        Mutual x = new Mutual();
        for (int i = 0; i < 7; i++) {
            x.farm(i);
            x.note(i, 1, 0, i == 2 ? 0 : 100);
        }
        x.fire(3, 4);
        for (int k = 0; k < 3; k++) {
            x.say(0, k, 1, 100);
        }
        // 100 by six like weights is 16.67: four coins are left.
        int[] due = {17, 17, 0, 17, 17, 16, 16};
        for (int i = 0; i < due.length; i++) {
            CHECK.due("call of " + i, x.call(0, i, 0), due[i]);
        }
        x.note(6, 1, 0, 140);
        // All are 640 now: of the others' weight 15.625, of farm 6's 21.875.
        int[] then = {16, 16, 0, 16, 15, 15, 22};
        for (int i = 0; i < then.length; i++) {
            CHECK.due("call of " + i, x.call(0, i, 0), then[i]);
        }
    }

    private static void callsWithoutWeight() {
        Mutual x = new Mutual();
        for (int i = 0; i < 4; i++) {
            x.farm(i);
        }
        x.note(2, 2, 0, 77);
        x.fire(2, 4);
        for (int k = 0; k < 3; k++) {
            x.say(0, k, 2, 100);
        }
        CHECK.due("only farm 2 weighs", x.call(0, 2, 0), 77);
        CHECK.due("farm 0 does not", x.call(0, 0, 0), 0);
        Check.vote(x, "rate beasts 0; rate hay 1;", 0);
        x.note(3, 3, 0, 1);
        CHECK.due("a weight of one coin", x.call(0, 3, 0), 77);
        x.note(3, 3, 0, 0);
        CHECK.due("none weighs: farm 0", x.call(0, 0, 0), 77);
        for (int i = 1; i < 4; i++) {
            CHECK.due("none weighs: farm " + i, x.call(0, i, 0), 0);
        }
    }

    private static void callsOnMembersOnly() {
        Mutual x = new Mutual();
        x.farm(0);
        x.farm(1);
        x.note(0, 0, 0, 100);
        x.pass(10);
        x.fire(0, 0);
        x.say(0, 0, 0, 100);
        x.farm(2);
        x.note(2, 0, 0, 100);
        CHECK.due("who came that day is a member", x.call(0, 2, 10), 50);
        x.pass(1);
        x.farm(3);
        x.note(3, 0, 0, 100);
        CHECK.due("who came later is none", x.call(0, 3, 11), 0);
        CHECK.due("farm 0", x.call(0, 0, 11), 50);
    }

    private static void callsRefused() {
        Mutual x = new Mutual();
        CHECK.due("no fire", x.call(0, 0, 0), -1);
        x.farm(0);
        x.pass(3);
        x.fire(0, 0);
        x.pass(1);
        CHECK.due("fire 1", x.call(1, 0, 3), -1);
        CHECK.due("fire -1", x.call(-1, 0, 3), -1);
        CHECK.due("farm 1", x.call(0, 1, 3), -1);
        CHECK.due("farm -1", x.call(0, -1, 3), -1);
        CHECK.due("ahead of the fire", x.call(0, 0, 2), -1);
        CHECK.due("beyond today", x.call(0, 0, 5), -1);
        CHECK.due("known 4", x.call(0, 0, 4), 0);
    }

    private static void largestSums() {
        Mutual x = new Mutual();
        for (int i = 0; i < 12; i++) {
            x.farm(i % 10);
            for (int kind = 0; kind < 4; kind++) {
                x.note(i, kind, 0, 10000);
            }
        }
        x.fire(11, -1);
        String ten = ": 1000,1,1,1,1,1,1,1,1,1,1,1;";
        Check.vote(x, "rate house 1000; rate barn 1000; rate beasts 1000; rate hay 1000;"
            + "season house" + ten + "season barn" + ten + "season beasts" + ten + "season hay" + ten, 0);
        for (int kind = 0; kind < 4; kind++) {
            for (int k = 0; k < 3; k++) {
                x.say(0, k, kind, 100);
            }
        }
        CHECK.due("the largest award", x.award(0, 0, 0), 400000);
        for (int i = 0; i < 12; i++) {
            CHECK.due("a twelfth " + i, x.call(0, i, 0), i < 4 ? 33334 : 33333);
        }
    }

    private static void booked(Mutual x, int k, long fire, long farm, long much) {
        CHECK.due("booked(" + k + ", 0)", x.booked(k, 0), fire);
        CHECK.due("booked(" + k + ", 1)", x.booked(k, 1), farm);
        CHECK.due("booked(" + k + ", 2)", x.booked(k, 2), much);
    }

    private static void bookings() {
        Mutual x = Scenes.burning(300, 0, 100);
        CHECK.due("booked before all", x.booked(0, 0), -1);
        x.note(1, 1, 0, 600);
        CHECK.due("an open fire is not booked", x.book(), 0);
        x.close(0);
        CHECK.due("book()", x.book(), 2);
        booked(x, 0, 0, 0, 200);
        booked(x, 1, 0, 1, -200);
        CHECK.due("booked(2, 0)", x.booked(2, 0), -1);
        CHECK.due("booked(-1, 0)", x.booked(-1, 0), -1);
        CHECK.due("booked(0, 3)", x.booked(0, 3), -1);
        CHECK.due("booked(0, -1)", x.booked(0, -1), -1);
        CHECK.dueCall("account(0)", () -> x.account(0), 200);
        CHECK.dueCall("account(1)", () -> x.account(1), -200);
        CHECK.due("book() again", x.book(), 0);
        CHECK.due("the latest has none", x.booked(0, 0), -1);
        CHECK.dueCall("account(0) stays", () -> x.account(0), 200);
        CHECK.due("count(6)", x.count(6), 2);
    }

    private static void bookingsOfDifferences() {
        Mutual x = Scenes.burning(300, 0, 100);
        x.farm(2);
        x.note(1, 1, 0, 600);
        x.note(2, 1, 0, 300);
        x.close(0);
        CHECK.due("book()", x.book(), 3);
        booked(x, 0, 0, 0, 225);
        booked(x, 1, 0, 1, -150);
        booked(x, 2, 0, 2, -75);
        x.pass(1);
        x.note(0, 1, 0, 600);
        // Of 1800 now 900, 600, 300: 150, 100, 50.
        CHECK.due("book() behind a note", x.book(), 3);
        booked(x, 0, 0, 0, -75);
        booked(x, 1, 0, 1, 50);
        booked(x, 2, 0, 2, 25);
        CHECK.dueCall("account(0)", () -> x.account(0), 150);
        CHECK.dueCall("account(1)", () -> x.account(1), -100);
        CHECK.dueCall("account(2)", () -> x.account(2), -50);
        x.note(0, 1, 0, 300);
        x.note(1, 1, 0, 900);
        // 600, 900, 300 of 1800: 100, 150, 50.
        CHECK.due("one of three stays", x.book(), 2);
        booked(x, 0, 0, 0, 50);
        booked(x, 1, 0, 1, -50);
        Check.vote(x, "reserve 1000;", 0);
        CHECK.due("the reserve bears all", x.book(), 3);
        CHECK.dueCall("account(0)", () -> x.account(0), 300);
        CHECK.dueCall("account(1)", () -> x.account(1), 0);
        x.undo(0);
        CHECK.due("and does not", x.book(), 3);
        CHECK.dueCall("account(0)", () -> x.account(0), 200);
        CHECK.due("count(6)", x.count(6), 14);
    }

    private static void bookingsByFiresThenFarms() {
        Mutual x = new Mutual();
        for (int i = 0; i < 3; i++) {
            x.farm(i);
            x.note(i, 0, 0, 300);
        }
        for (int fire = 0; fire < 3; fire++) {
            x.fire(2 - fire, 0);
            for (int k = 0; k < 2; k++) {
                x.say(fire, k, 0, 10 * (fire + 1));
            }
        }
        x.close(2);
        x.close(0);
        CHECK.due("book()", x.book(), 6);
        booked(x, 0, 0, 0, -10);
        booked(x, 1, 0, 1, -10);
        booked(x, 2, 0, 2, 20);
        booked(x, 3, 2, 0, 60);
        booked(x, 4, 2, 1, -30);
        booked(x, 5, 2, 2, -30);
        x.close(1);
        CHECK.due("book()", x.book(), 3);
        booked(x, 0, 1, 0, -20);
        booked(x, 1, 1, 1, 40);
        booked(x, 2, 1, 2, -20);
        CHECK.dueCall("account(0)", () -> x.account(0), 30);
        CHECK.dueCall("account(1)", () -> x.account(1), 0);
        CHECK.dueCall("account(2)", () -> x.account(2), -30);
        CHECK.due("count(6)", x.count(6), 9);
    }

    private static Mutual twelveByTwelve() {
        Mutual x = new Mutual();
        for (int i = 0; i < 12; i++) {
            x.farm(i % 10);
            x.note(i, 0, 0, 1200);
        }
        for (int i = 0; i < 12; i++) {
            x.fire(i, i);
            for (int k = 0; k < 3; k++) {
                x.say(i, k, 0, 100);
            }
            x.close(i);
        }
        CHECK.due("twelve fires, twelve farms", x.book(), 144);
        return x;
    }

    private static void mostBookings() {
        Mutual x = twelveByTwelve();
        for (int k = 0; k < 72; k++) {
            booked(x, k, k / 12, k % 12, k / 12 == k % 12 ? 1100 : -100);
        }
        for (int i = 0; i < 12; i++) {
            int farm = i;
            CHECK.dueCall("account(" + farm + ")", () -> x.account(farm), 0);
        }
        CHECK.due("count(6)", x.count(6), 144);
        Mutual y = twelveByTwelve();
        for (int k = 72; k < 144; k++) {
            booked(y, k, k / 12, k % 12, k / 12 == k % 12 ? 1100 : -100);
        }
        CHECK.due("booked(144, 0)", y.booked(144, 0), -1);
    }

    private static void accountsRefused() {
        Mutual x = new Mutual();
        CHECK.dueCall("account(0)", () -> x.account(0), Check.NO_SUCH_ELEMENT);
        x.farm(0);
        CHECK.dueCall("account(0)", () -> x.account(0), 0);
        CHECK.dueCall("account(1)", () -> x.account(1), Check.NO_SUCH_ELEMENT);
        CHECK.dueCall("account(-1)", () -> x.account(-1), Check.NO_SUCH_ELEMENT);
        CHECK.dueCall("account(MAX)", () -> x.account(Integer.MAX_VALUE), Check.NO_SUCH_ELEMENT);
    }

    private static void counts() {
        Mutual x = Scenes.burning(300, 0, 100);
        x.note(1, 1, 0, 600);
        x.pass(4);
        Check.vote(x, "own 0; reserve 0;", 0);
        Check.vote(x, "own 0;", 0);
        Check.vote(x, "own 0; own 0;", 0);
        x.close(0);
        x.book();
        int[] due = {4, 2, 2, 3, 1, 3, 2};
        for (int what = 0; what < due.length; what++) {
            CHECK.due("count(" + what + ")", x.count(what), due[what]);
        }
        CHECK.due("count(7)", x.count(7), -1);
        CHECK.due("count(-1)", x.count(-1), -1);
    }
}
