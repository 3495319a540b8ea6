/** "Terms" 3, its second part, sentence by sentence: awards, who bears them, calls, bookings. */
public final class CoinEdgesTest {
    private static final Check CHECK = new Check();
    private static final int NONE = FireMutual.NONE;

    public static void main(String[] args) {
        cutToCoins();
        partedByBothBooks();
        nothingIfBothAreNothing();
        whatIsNotPaid();
        bucketsBelowDuty();
        takenOffRoundedUp();
        ownOfTheRest();
        onTheFiresDay();
        asKnownOnAnother();
        whatCountsIsOfTheFiresDayAsKnown();
        whatCountsBesideDuty();
        largestAward();
        reserveAtMost();
        othersInTurn();
        nothingIsCalled();
        weightsOfMembers();
        callsCut();
        coinsLeft();
        withoutAnyWeight();
        largestCalls();
        callsAddUp();
        closedFiresAreBooked();
        onlyDifferencesAreBooked();
        noughtIsNotBooked();
        laterFarmsAreNotBooked();
        bookingsOfTheLatestBook();
        accountsOfManyFires();
        questionsDoNotBook();
        CHECK.end();
    }

    private static String season(int hundredths) {
        return "season house:" + hundredths + ("," + hundredths).repeat(11) + ";";
    }

    private static void award(String what, Mutual x, long due) {
        CHECK.due(what, x.award(0, x.count(0), 0), due);
    }

    private static void seasoned(int worth, int hundredths, int lost, long due) {
        Mutual x = Scenes.burning(worth, 0, lost);
        Check.vote(x, season(hundredths), 0);
        award(worth + " by " + hundredths + " by " + lost, x, due);
    }

    /** "WORTH times season (hundredths) times LOST (hundredths), cut to coins": once, not after each. */
    private static void cutToCoins() {
        award("99 of one hundredth", Scenes.burning(99, 0, 1), 0);
        award("100 of one hundredth", Scenes.burning(100, 0, 1), 1);
        award("199 of one hundredth", Scenes.burning(199, 0, 1), 1);
        award("200 of one hundredth", Scenes.burning(200, 0, 1), 2);
        award("1 of 99", Scenes.burning(1, 0, 99), 0);
        award("1 of 100", Scenes.burning(1, 0, 100), 1);
        award("10000 of 100", Scenes.burning(10000, 0, 100), 10000);
        award("10000 of 0", Scenes.burning(10000, 0, 0), 0);
        award("0 of 100", Scenes.burning(0, 0, 100), 0);
        seasoned(10000, 1, 1, 1);
        seasoned(9999, 1, 1, 0);
        seasoned(33, 50, 50, 8);
        // 3 by 0.5 would be cut to 1 and 1 by 2 to 2 if it were cut in between.
        seasoned(3, 50, 100, 1);
        seasoned(15, 150, 50, 11);
        seasoned(1, 50, 100, 0);
        seasoned(1, 1000, 10, 1);
        seasoned(1, 199, 100, 1);
        seasoned(777, 0, 100, 0);
        seasoned(10000, 1000, 100, 100000);
    }

    /** "times WORTH by WORTH and ELSEWHERE, cut". */
    private static void partedByBothBooks() {
        award("half elsewhere", Scenes.burning(100, 100, 100), 50);
        award("cut", Scenes.burning(101, 101, 100), 50);
        award("1 by 10001", Scenes.burning(1, 10000, 100), 0);
        award("10000 by 10001", Scenes.burning(10000, 1, 100), 9999);
        award("both full", Scenes.burning(10000, 10000, 100), 5000);
        award("both full, one hundredth", Scenes.burning(10000, 10000, 1), 50);
        award("3 by 4", Scenes.burning(3, 1, 100), 2);
        // 199 by half is cut to 99 first, 99 by 199 / 398 is 49.5 then.
        award("cut twice", Scenes.burning(199, 199, 50), 49);
        // 150 by 0.67 is 100.5, cut to 100; 100 by 150 / 151 is 99.3; uncut it would be 99.8.
        award("cut twice", Scenes.burning(150, 1, 67), 99);
        // 101 by 0.99 is 99.99, cut to 99; 99 by 101 / 102 is 98.03; uncut it would be 99.01.
        award("the first cut shows", Scenes.burning(101, 1, 99), 98);
    }

    /** "(0 if both are 0)". */
    private static void nothingIfBothAreNothing() {
        award("both are 0", Scenes.burning(0, 0, 100), 0);
        award("WORTH is 0", Scenes.burning(0, 1, 100), 0);
        award("WORTH is 0, all elsewhere", Scenes.burning(0, 10000, 100), 0);
        award("ELSEWHERE is 0", Scenes.burning(1, 0, 100), 1);
        Mutual x = Scenes.burning(0, 0, 100);
        CHECK.due("close", x.close(0), true);
        CHECK.due("nothing is booked", x.book(), 0);
        x.note(0, 3, 0, 50);
        x.say(0, 0, 3, 100);
        CHECK.due("calls of nothing", x.call(0, 0, 0), 0);
    }

    /** "the sum over CLASSES that are paid". */
    private static void whatIsNotPaid() {
        String[] names = {"house", "barn", "beasts", "hay"};
        for (int kind = 0; kind < 4; kind++) {
            Mutual x = new Mutual();
            x.farm(0);
            x.farm(1);
            x.fire(0, 0);
            for (int of = 0; of < 4; of++) {
                x.note(0, of, 0, 100 << of);
                x.say(0, 0, of, 100);
            }
            award("all are paid", x, 1500);
            Check.vote(x, "none " + names[kind] + ";", 1);
            award("from a later day on", x, 1500);
            Check.vote(x, "none " + names[kind] + ";", 0);
            award("without " + names[kind], x, 1500 - (100 << kind));
            CHECK.due("its weight stays", x.call(0, 0, 0), 1500 - (100 << kind));
            x.undo(1);
            award("undone", x, 1500);
        }
        Mutual y = Scenes.burning(100, 0, 100);
        Check.vote(y, "none house; none barn; none beasts; none hay;", 0);
        award("none is paid", y, 0);
    }

    /** "if the FARM's BUCKETS are below duty's number": below, at, above; 0 is below 1 and not below 0. */
    private static void bucketsBelowDuty() {
        Mutual x = Scenes.burning(100, 0, 100);
        Check.vote(x, "duty 0 less 50;", 0);
        award("0 is not below 0", x, 100);
        Check.vote(x, "duty 1 less 50;", 0);
        award("0 is below 1", x, 50);
        x.note(0, 8, 0, 1);
        award("1 is not below 1", x, 100);
        Check.vote(x, "duty 99 less 50;", 0);
        x.note(0, 8, 0, 98);
        award("98 is below 99", x, 50);
        x.note(0, 8, 0, 99);
        award("99 is not below 99", x, 100);
        Check.vote(x, "duty 100 less 50;", 0);
        award("99 is below 100", x, 50);
        Check.vote(x, "duty 1000 less 50;", 0);
        award("99 is below 1000", x, 50);
        x.note(1, 8, 0, 99);
        Check.vote(x, "duty 50 less 50;", 0);
        x.note(0, 8, 0, 49);
        award("the judge's buckets do not count", x, 50);
        x.note(0, 8, 1, 99);
        award("nor those of a later day", x, 50);
    }

    private static void less(int sum, int hundredths, long due) {
        Mutual x = Scenes.burning(sum, 0, 100);
        Check.vote(x, "duty 1 less " + hundredths + ";", 0);
        award(sum + " less " + hundredths, x, due);
        Mutual y = Scenes.burning(sum, 0, 100);
        Check.vote(y, "own " + hundredths + ";", 0);
        award(sum + " own " + hundredths, y, due);
    }

    /** "what is taken off is rounded up to coins": by duty and by own alike. */
    private static void takenOffRoundedUp() {
        less(100, 0, 100);
        less(100, 1, 99);
        less(99, 1, 98);
        less(101, 1, 99);
        less(1, 1, 0);
        less(1, 0, 1);
        less(1, 100, 0);
        less(0, 100, 0);
        less(0, 1, 0);
        less(200, 50, 100);
        less(201, 50, 100);
        less(199, 50, 99);
        less(100, 99, 1);
        less(100, 100, 0);
        less(10000, 100, 0);
        less(10000, 99, 100);
        less(9999, 99, 99);
        less(10000, 1, 9900);
        less(9999, 1, 9899);
    }

    /** "of the rest own's hundredths likewise": of the rest, not of the sum, and rounded by itself. */
    private static void ownOfTheRest() {
        Mutual x = Scenes.burning(100, 0, 100);
        Check.vote(x, "duty 1 less 50; own 50;", 0);
        award("half of the half", x, 25);
        Check.vote(x, "duty 1 less 10; own 10;", 0);
        award("90, then 9 off", x, 81);
        x.note(0, 0, 0, 101);
        // 10.1 up to 11 leaves 90; 9 off leaves 81.
        award("90, then 9 off", x, 81);
        x.note(0, 0, 0, 102);
        // 10.2 up to 11 leaves 91; 9.1 up to 10 leaves 81.
        award("91, then 10 off", x, 81);
        Check.vote(x, "duty 1 less 100; own 100;", 0);
        award("nothing is left", x, 0);
        Check.vote(x, "duty 1 less 100; own 1;", 0);
        award("nothing of nothing", x, 0);
        x.note(0, 8, 0, 1);
        award("own alone: 1.02 up to 2", x, 100);
    }

    /** "AWARD, on the FIRE's DAY": what holds from the next day on does not count, what does from that day on does. */
    private static void onTheFiresDay() {
        Mutual x = new Mutual();
        x.farm(0);
        x.farm(1);
        x.note(0, 0, 0, 100);
        x.pass(10);
        x.fire(0, 0);
        x.say(0, 0, 0, 100);
        award("worth of day 0", x, 100);
        x.note(0, 0, 11, 500);
        award("from the next day on", x, 100);
        x.note(0, 0, 10, 200);
        award("from that day on", x, 200);
        x.note(0, 0, 9, 300);
        award("from the day ahead on", x, 200);
        Check.vote(x, "own 50;", 11);
        award("a text from the next day on", x, 200);
        Check.vote(x, "own 10;", 10);
        award("a text from that day on", x, 180);
        x.note(0, 4, 11, 200);
        award("elsewhere from the next day on", x, 180);
        x.note(0, 4, 10, 200);
        award("elsewhere from that day on", x, 90);
        x.pass(50);
        award("and so on a later day", x, 90);
    }

    /** "as KNOWN on another": not ahead of the FIRE's DAY, at most TODAY. */
    private static void asKnownOnAnother() {
        Mutual x = new Mutual();
        x.farm(0);
        x.farm(1);
        x.pass(4);
        x.note(0, 0, 0, 100);
        x.pass(1);
        x.fire(0, 0);
        x.say(0, 0, 0, 100);
        x.pass(1);
        x.note(0, 0, 0, 200);
        x.note(1, 0, 0, 200);
        CHECK.due("ahead of the fire's day", x.award(0, 4, 0), NONE);
        CHECK.due("on it", x.award(0, 5, 0), 100);
        CHECK.due("today", x.award(0, 6, 0), 200);
        CHECK.due("beyond today", x.award(0, 7, 0), NONE);
        CHECK.due("call ahead of the fire's day", x.call(0, 0, 4), NONE);
        CHECK.due("call on it", x.call(0, 0, 5), 100);
        CHECK.due("call today", x.call(0, 0, 6), 100);
        CHECK.due("the other's call on it", x.call(0, 1, 5), 0);
        CHECK.due("the other's call today", x.call(0, 1, 6), 100);
        CHECK.due("call beyond today", x.call(0, 0, 7), NONE);
        x.pass(713);
        CHECK.due("on the last day", x.award(0, 719, 0), 200);
        CHECK.due("beyond it", x.award(0, 720, 0), NONE);
    }

    private static void reckoned(String what, Mutual x, int known, long[] due) {
        for (int i = 0; i < 8; i++) {
            long got = i < 6 ? x.award(0, known, i) : x.call(0, i - 6, known);
            CHECK.due(what + ", as known on " + known + ", number " + i, got, due[i]);
        }
    }

    /** Tells a thing on day 20 from the day behind the fire's, and then from the fire's own, which is day 10. */
    private static void toldLater(String what, String statute, Trace.Step change, Trace.Step changeBehind, long[] base, long[] due) {
        Mutual x = new Mutual();
        x.farm(0);
        x.farm(1);
        x.note(0, 0, 0, 1000);
        x.note(1, 1, 0, 1000);
        x.note(0, 8, 0, 3);
        Check.vote(x, statute, 0);
        x.pass(10);
        x.fire(0, 0);
        x.say(0, 0, 0, 100);
        x.pass(10);
        reckoned("ahead of " + what, x, 20, base);
        changeBehind.on(x);
        reckoned(what + " from day 11", x, 20, base);
        change.on(x);
        reckoned(what + " from day 10", x, 20, due);
        reckoned(what + " from day 10", x, 19, base);
        reckoned(what + " from day 10", x, 10, base);
        x.pass(1);
        reckoned(what + " from day 10", x, 21, due);
    }

    private static void textLater(String statute, String text, long[] base, long... due) {
        toldLater(text, statute, x -> Check.vote(x, text, 10), x -> Check.vote(x, text, 11), base, due);
    }

    private static void noteLater(String statute, int farm, int what, int v, long[] base, long... due) {
        Trace.Step on = x -> x.note(farm, what, 10, v);
        toldLater("note of " + what, statute, on, x -> x.note(farm, what, 11, v), base, due);
    }

    /** "on the FIRE's DAY, as KNOWN on another": each thing that an award or a call is reckoned from. */
    private static void whatCountsIsOfTheFiresDayAsKnown() {
        long[] base = {1000, 0, 0, 0, 0, 1000, 500, 500};
        textLater("", "none house;", base, 0, 0, 0, 0, 0, 0, 0, 0);
        textLater("", season(50), base, 500, 0, 0, 0, 0, 500, 250, 250);
        textLater("", "duty 4 less 50;", base, 500, 0, 0, 0, 0, 500, 250, 250);
        textLater("", "own 50;", base, 500, 0, 0, 0, 0, 500, 250, 250);
        textLater("", "reserve 100;", base, 1000, 100, 0, 0, 0, 900, 450, 450);
        textLater("", "other 0 100;", base, 1000, 0, 100, 0, 0, 900, 450, 450);
        textLater("", "other 1 100;", base, 1000, 0, 0, 100, 0, 900, 450, 450);
        textLater("", "other 2 100;", base, 1000, 0, 0, 0, 100, 900, 450, 450);
        textLater("", "rate house 3;", base, 1000, 0, 0, 0, 0, 1000, 750, 250);
        textLater("", "rate barn 3;", base, 1000, 0, 0, 0, 0, 1000, 250, 750);
        noteLater("", 0, 0, 3000, base, 3000, 0, 0, 0, 0, 3000, 2250, 750);
        noteLater("", 0, 4, 1000, base, 500, 0, 0, 0, 0, 500, 250, 250);
        noteLater("", 1, 1, 3000, base, 1000, 0, 0, 0, 0, 1000, 250, 750);
    }

    /** The same beside a duty that is in force already. */
    private static void whatCountsBesideDuty() {
        String duty = "duty 4 less 50;";
        long[] base = {500, 0, 0, 0, 0, 500, 250, 250};
        noteLater(duty, 0, 8, 4, base, 1000, 0, 0, 0, 0, 1000, 500, 500);
        textLater(duty, "duty 3 less 50;", base, 1000, 0, 0, 0, 0, 1000, 500, 500);
        textLater(duty, "duty 4 less 10;", base, 900, 0, 0, 0, 0, 900, 450, 450);
        textLater(duty, "duty 1000 less 100;", base, 0, 0, 0, 0, 0, 0, 0, 0);
    }

    private static Mutual largest() {
        Mutual x = new Mutual();
        StringBuilder text = new StringBuilder();
        for (String kind : new String[] {"house", "barn", "beasts", "hay"}) {
            text.append("rate ").append(kind).append(" 1000;season ").append(kind).append(":1000").append(",1000".repeat(11)).append(";");
        }
        Check.vote(x, text.toString(), 0);
        for (int i = 0; i < 12; i++) {
            x.farm(i == 11 ? 1 : 0);
            for (int kind = 0; kind < 4; kind++) {
                x.note(i, kind, 0, 10000);
            }
        }
        x.fire(11, 0);
        for (int kind = 0; kind < 4; kind++) {
            for (int k = 0; k < 3; k++) {
                x.say(0, k, kind, 100);
            }
        }
        return x;
    }

    /** The largest numbers that may be told do not go round. */
    private static void largestAward() {
        Mutual x = largest();
        award("all at its most", x, 400000);
        Check.vote(x, "own 1;", 0);
        award("own of it", x, 396000);
        for (int kind = 4; kind < 8; kind++) {
            x.note(11, kind, 0, 10000);
        }
        award("and doubled", x, 198000);
    }

    private static void parts(String what, Mutual x, int fire, long... due) {
        for (int i = 0; i < due.length; i++) {
            CHECK.due(what + ", part " + i + " of fire " + fire, x.award(fire, x.count(0), i), due[i]);
        }
    }

    /** "the reserve bears at most its number". */
    private static void reserveAtMost() {
        Mutual x = Scenes.burning(100, 0, 100);
        parts("no reserve", x, 0, 100, 0, 0, 0, 0, 100);
        Check.vote(x, "reserve 1;", 0);
        parts("reserve 1", x, 0, 100, 1, 0, 0, 0, 99);
        Check.vote(x, "reserve 99;", 0);
        parts("reserve 99", x, 0, 100, 99, 0, 0, 0, 1);
        Check.vote(x, "reserve 100;", 0);
        parts("reserve 100", x, 0, 100, 100, 0, 0, 0, 0);
        Check.vote(x, "reserve 101; other 0 5;", 0);
        parts("reserve 101", x, 0, 100, 100, 0, 0, 0, 0);
        Check.vote(x, "reserve 1000;", 0);
        parts("reserve 1000", x, 0, 100, 100, 0, 0, 0, 0);
        x.say(0, 0, 0, 0);
        parts("nothing to bear", x, 0, 0, 0, 0, 0, 0, 0);
    }

    /** "OTHERS 0, 1, 2, beginning with that of the FIRE's number modulo 3, each at most its number". */
    private static void othersInTurn() {
        Mutual x = new Mutual();
        x.farm(0);
        x.farm(1);
        x.note(0, 0, 0, 100);
        for (int fire = 0; fire < 12; fire++) {
            x.fire(0, 0);
            x.say(fire, 0, 0, 100);
        }
        Check.vote(x, "other 0 50; other 1 60; other 2 70;", 0);
        for (int fire = 0; fire < 12; fire++) {
            long[][] due = {{100, 0, 50, 50, 0, 0}, {100, 0, 0, 60, 40, 0}, {100, 0, 30, 0, 70, 0}};
            parts("two bear it", x, fire, due[fire % 3]);
        }
        Check.vote(x, "other 0 100; other 1 99; other 2 101;", 0);
        parts("one bears it", x, 3, 100, 0, 100, 0, 0, 0);
        parts("one bears but a coin", x, 4, 100, 0, 0, 99, 1, 0);
        parts("one bears it", x, 5, 100, 0, 0, 0, 100, 0);
        Check.vote(x, "other 0 0; other 1 1; other 2 98; reserve 0;", 0);
        parts("a coin is called", x, 0, 100, 0, 0, 1, 98, 1);
        parts("a coin is called", x, 1, 100, 0, 0, 1, 98, 1);
        parts("a coin is called", x, 2, 100, 0, 0, 1, 98, 1);
        Check.vote(x, "reserve 1;", 0);
        parts("none is called", x, 2, 100, 1, 0, 1, 98, 0);
        Check.vote(x, "reserve 2;", 0);
        parts("the last in turn bears less", x, 2, 100, 2, 0, 0, 98, 0);
        parts("the last in turn bears less", x, 1, 100, 2, 0, 1, 97, 0);
    }

    /** "the rest R is CALLED": nothing, if others bear all. */
    private static void nothingIsCalled() {
        Mutual x = Scenes.burning(100, 0, 100);
        x.note(1, 0, 0, 100);
        Check.vote(x, "reserve 100;", 0);
        CHECK.due("call of 0", x.call(0, 0, 0), 0);
        CHECK.due("call of 1", x.call(0, 1, 0), 0);
        x.close(0);
        CHECK.due("only the award is booked", x.book(), 1);
        CHECK.due("it", x.account(0), 100);
        CHECK.due("not the other's", x.account(1), 0);
        Check.vote(x, "reserve 99;", 0);
        CHECK.due("a coin: of like ones the lesser number", x.call(0, 0, 0), 1);
        CHECK.due("a coin", x.call(0, 1, 0), 0);
    }

    /** "WEIGHT of a FARM that is a member on that DAY: the sum over CLASSES of WORTH times rate". */
    private static void weightsOfMembers() {
        Mutual x = Scenes.burning(100, 0, 100);
        for (int kind = 0; kind < 4; kind++) {
            x.note(1, kind, 0, 100);
        }
        // 100 and 400.
        CHECK.due("farm 0", x.call(0, 0, 0), 20);
        CHECK.due("farm 1", x.call(0, 1, 0), 80);
        Check.vote(x, "rate barn 0; rate beasts 0; rate hay 0;", 0);
        CHECK.due("houses alone", x.call(0, 0, 0), 50);
        Check.vote(x, "rate house 0; rate hay 1000;", 0);
        CHECK.due("hay alone", x.call(0, 0, 0), 0);
        CHECK.due("hay alone", x.call(0, 1, 0), 100);
        Check.vote(x, "rate house 1000; rate hay 1000;", 0);
        // 100000 and 200000: 33.3 and 66.7.
        CHECK.due("a third", x.call(0, 0, 0), 33);
        CHECK.due("two thirds and the coin", x.call(0, 1, 0), 67);
        x.note(1, 4, 0, 10000);
        CHECK.due("what is elsewhere weighs as well", x.call(0, 1, 0), 67);
        Check.vote(x, "none house; season hay:0" + ",0".repeat(11) + ";", 0);
        CHECK.due("nothing to call", x.call(0, 1, 0), 0);
    }

    /** "a CALL is R times WEIGHT by all WEIGHTS, cut": whole parts leave no coin. */
    private static void callsCut() {
        Mutual x = Scenes.burning(99, 0, 100);
        x.note(1, 1, 0, 1);
        CHECK.due("98.01", x.call(0, 0, 0), 98);
        CHECK.due("0.99 and the coin", x.call(0, 1, 0), 1);
        x.note(1, 1, 0, 99);
        CHECK.due("49.5, the lesser number", x.call(0, 0, 0), 50);
        CHECK.due("49.5", x.call(0, 1, 0), 49);
        x.note(1, 1, 0, 198);
        CHECK.due("33", x.call(0, 0, 0), 33);
        CHECK.due("66", x.call(0, 1, 0), 66);
        x.note(1, 1, 0, 10000);
        // 99 by 99 / 10099 is 0.97, 99 by 10000 / 10099 is 98.03.
        CHECK.due("0.97 and the coin", x.call(0, 0, 0), 1);
        CHECK.due("98.03", x.call(0, 1, 0), 98);
    }

    private static Mutual many(int award, int... weights) {
        Mutual x = new Mutual();
        x.farm(0);
        for (int i = 1; i < weights.length; i++) {
            x.farm(1);
        }
        x.note(0, 0, 0, award);
        for (int i = 0; i < weights.length; i++) {
            x.note(i, 3, 0, weights[i]);
        }
        Check.vote(x, "rate house 0;", 0);
        x.fire(0, 0);
        for (int k = 0; k < 3; k++) {
            x.say(0, k, 0, 100);
        }
        return x;
    }

    private static void calls(Mutual x, long... due) {
        for (int i = 0; i < due.length; i++) {
            CHECK.due("call of farm " + i + " of " + due.length, x.call(0, i, 0), due[i]);
        }
    }

    /** "the coins left: one each to those whose cut lost most, of like ones the lesser number". */
    private static void coinsLeft() {
        int[] like = {5, 5, 5, 5, 5, 5, 5, 5, 5, 5, 5, 5};
        for (int award = 0; award <= 25; award++) {
            Mutual x = many(award, like);
            for (int i = 0; i < 12; i++) {
                CHECK.due(award + " by twelve, farm " + i, x.call(0, i, 0), award / 12 + (i < award % 12 ? 1 : 0));
            }
        }
        // 10 by 1, 2, 3 of 6: 1.67, 3.33, 5.
        calls(many(10, 1, 2, 3), 2, 3, 5);
        // 10 by 3, 2, 1 of 6: 5, 3.33, 1.67.
        calls(many(10, 3, 2, 1), 5, 3, 2);
        // 1 by 1, 2, 2, 1 of 6: the second and the third lost most.
        calls(many(1, 1, 2, 2, 1), 0, 1, 0, 0);
        // 2 by them: 0.33, 0.67, 0.67, 0.33.
        calls(many(2, 1, 2, 2, 1), 0, 1, 1, 0);
        // 3 by them: 0.5, 1, 1, 0.5: who lost nothing gets none.
        calls(many(3, 1, 2, 2, 1), 1, 1, 1, 0);
        // 5 by them: 0.83, 1.67, 1.67, 0.83: three are left.
        calls(many(5, 1, 2, 2, 1), 1, 2, 1, 1);
        // Who has no weight gets none, though of the least number.
        calls(many(1, 0, 7, 7), 0, 1, 0);
        calls(many(5, 0, 7, 0, 7, 0), 0, 3, 0, 2, 0);
        // 7 by 10000 and 1 of 10001: 6.9993, 0.0007.
        calls(many(7, 10000, 1), 7, 0);
        calls(many(7, 1, 10000), 0, 7);
    }

    /** "(without any WEIGHT all is the FARM's of number 0)". */
    private static void withoutAnyWeight() {
        Mutual x = many(77, 0, 0, 0);
        calls(x, 77, 0, 0);
        x.note(2, 3, 0, 1);
        calls(x, 0, 0, 77);
        Check.vote(x, "rate hay 0;", 0);
        calls(x, 77, 0, 0);
        Mutual y = new Mutual();
        y.farm(1);
        y.pass(3);
        y.farm(0);
        y.note(1, 0, 0, 50);
        y.fire(1, 0);
        y.say(0, 0, 0, 100);
        Check.vote(y, "rate house 0;", 0);
        y.pass(1);
        y.farm(2);
        y.note(2, 3, 0, 100);
        CHECK.due("who came later weighs nothing", y.call(0, 2, 4), 0);
        CHECK.due("nor as known ahead of its coming: there is such a farm today", y.call(0, 2, 3), 0);
        CHECK.due("farm 0 judged, and bears it", y.call(0, 0, 4), 50);
        CHECK.due("not the farm itself", y.call(0, 1, 4), 0);
        y.close(0);
        CHECK.due("two are booked", y.book(), 2);
        CHECK.due("farm 0", y.account(0), -50);
        CHECK.due("farm 1", y.account(1), 50);
        Mutual z = many(0, 0, 0);
        calls(z, 0, 0);
    }

    /** The largest calls do not go round. */
    private static void largestCalls() {
        Mutual x = largest();
        for (int i = 0; i < 12; i++) {
            CHECK.due("a twelfth for farm " + i, x.call(0, i, 0), i < 4 ? 33334 : 33333);
        }
        for (int i = 0; i < 11; i++) {
            for (int kind = 0; kind < 4; kind++) {
                x.note(i, kind, 0, 0);
            }
        }
        CHECK.due("all of it", x.call(0, 11, 0), 400000);
        x.note(0, 0, 0, 1);
        // 400000 by 1 of 40001 is 9.9998, by 40000 of 40001 it is 399990.0002.
        CHECK.due("a small weight", x.call(0, 0, 0), 10);
        CHECK.due("a large one", x.call(0, 11, 0), 399990);
    }

    /** Coin by coin: what is called on all is what is CALLED. */
    private static void callsAddUp() {
        int[] weights = {1, 10000, 3, 0, 77, 501, 9999, 2, 2, 2, 1234, 5678};
        for (int award : new int[] {0, 1, 2, 11, 12, 13, 97, 1000, 9999, 10000}) {
            Mutual x = many(award, weights);
            long sum = 0;
            for (int i = 0; i < 12; i++) {
                sum += x.call(0, i, 0);
            }
            CHECK.due("all calls of " + award, sum, x.award(0, 0, 5));
        }
    }

    /** "for each FIRE that is CLOSED". */
    private static void closedFiresAreBooked() {
        Mutual x = Scenes.burning(100, 0, 100);
        x.note(1, 0, 0, 100);
        CHECK.due("open", x.book(), 0);
        CHECK.due("nothing", x.account(0), 0);
        CHECK.due("count(6)", x.count(6), 0);
        x.close(0);
        CHECK.due("closing books nothing", x.account(0), 0);
        CHECK.due("closed", x.book(), 2);
        CHECK.due("farm 0", x.account(0), 50);
        CHECK.due("farm 1", x.account(1), -50);
        x.fire(1, 0);
        x.say(1, 0, 0, 100);
        CHECK.due("the other is open", x.book(), 0);
        CHECK.due("farm 1", x.account(1), -50);
    }

    /** "less what was booked for both": as KNOWN TODAY, up and down and back. */
    private static void onlyDifferencesAreBooked() {
        Mutual x = Scenes.burning(100, 0, 100);
        x.note(1, 0, 0, 100);
        x.close(0);
        x.book();
        x.pass(1);
        CHECK.due("nothing new", x.book(), 0);
        x.note(0, 0, 0, 300);
        // 300 by 3 and 1: 225 and 75; 75 is 25 more than 50.
        CHECK.due("known later", x.book(), 2);
        CHECK.due("more for 0", x.booked(0, 2), 25);
        CHECK.due("more on 1", x.booked(1, 2), -25);
        x.note(0, 0, 0, 100);
        CHECK.due("taken back", x.book(), 2);
        CHECK.due("less for 0", x.booked(0, 2), -25);
        CHECK.due("less on 1", x.booked(1, 2), 25);
        CHECK.due("account of 0", x.account(0), 50);
        CHECK.due("account of 1", x.account(1), -50);
        x.note(0, 0, 0, 0);
        CHECK.due("nothing is due", x.book(), 2);
        CHECK.due("account of 0", x.account(0), 0);
        CHECK.due("account of 1", x.account(1), 0);
        CHECK.due("nothing new", x.book(), 0);
        CHECK.due("count(6)", x.count(6), 8);
    }

    /** "is booked, if not 0": whose award is their call, and whom nothing is called on, are left out. */
    private static void noughtIsNotBooked() {
        Mutual x = Scenes.burning(100, 0, 100);
        x.farm(2);
        x.close(0);
        CHECK.due("all weight is its own", x.book(), 0);
        CHECK.due("booked(0, 0)", x.booked(0, 0), NONE);
        x.note(2, 0, 0, 1);
        // 100 by 100 / 101 is 99.0, by 1 / 101 is 0.99.
        CHECK.due("farm 1 is left out", x.book(), 2);
        CHECK.due("first", x.booked(0, 1), 0);
        CHECK.due("second", x.booked(1, 1), 2);
        CHECK.due("how much", x.booked(1, 2), -1);
        x.note(1, 0, 0, 1);
        // By 100, 1, 1 of 102: 98.04, 0.98, 0.98.
        CHECK.due("farm 2 is left out", x.book(), 2);
        CHECK.due("first", x.booked(0, 1), 0);
        CHECK.due("second", x.booked(1, 1), 1);
        CHECK.due("a third", x.booked(2, 1), NONE);
        CHECK.due("count(6)", x.count(6), 4);
    }

    /** Who was no member on the FIRE's DAY has nothing booked for it. */
    private static void laterFarmsAreNotBooked() {
        Mutual x = Scenes.burning(100, 0, 100);
        x.note(1, 0, 0, 100);
        x.close(0);
        x.pass(1);
        x.farm(2);
        x.note(2, 0, 0, 10000);
        CHECK.due("two of three", x.book(), 2);
        CHECK.due("account of 2", x.account(2), 0);
        CHECK.due("account of 0", x.account(0), 50);
    }

    /** "Of the k-th of the latest book() (by FIRES, then FARMS)": it stays till the next book(), whatever comes between. */
    private static void bookingsOfTheLatestBook() {
        Mutual x = Scenes.burning(100, 0, 100);
        x.note(1, 0, 0, 100);
        x.fire(1, 0);
        x.say(1, 0, 0, 100);
        x.close(1);
        x.close(0);
        CHECK.due("book", x.book(), 4);
        x.award(0, 0, 0);
        x.call(1, 1, 0);
        x.note(0, 0, 0, 300);
        x.pass(1);
        x.fire(0, 3);
        Check.vote(x, "own 5;", 0);
        long[][] due = {{0, 0, 50}, {0, 1, -50}, {1, 0, -50}, {1, 1, 50}};
        for (int k = 0; k < 4; k++) {
            for (int what = 0; what < 3; what++) {
                CHECK.due("booked(" + k + ", " + what + ")", x.booked(k, what), due[k][what]);
            }
        }
        CHECK.due("booked(4, 0)", x.booked(4, 0), NONE);
        CHECK.due("booked(4, 2)", x.booked(4, 2), NONE);
        CHECK.due("booked(-1, 2)", x.booked(-1, 2), NONE);
        CHECK.due("booked(3, 3)", x.booked(3, 3), NONE);
        CHECK.due("booked(3, -1)", x.booked(3, -1), NONE);
        x.undo(0);
        x.note(0, 0, 0, 100);
        CHECK.due("book of nothing", x.book(), 0);
        for (int k = 0; k < 4; k++) {
            CHECK.due("the page is empty", x.booked(k, 0), NONE);
        }
    }

    /** "ACCOUNT of a FARM: what was booked": of all fires, 0 at first. */
    private static void accountsOfManyFires() {
        Mutual x = new Mutual();
        for (int i = 0; i < 3; i++) {
            x.farm(i);
            CHECK.due("at first", x.account(i), 0);
            x.note(i, 0, 0, 300);
        }
        long[] due = new long[3];
        for (int fire = 0; fire < 12; fire++) {
            x.fire(fire % 3, fire);
            x.say(fire, 0, 0, 100);
            x.say(fire, 1, 0, 10 * (fire % 5));
            x.close(fire);
            CHECK.due("book fire " + fire, x.book(), fire % 5 == 0 ? 0 : 3);
            CHECK.due("the fire's number", x.booked(2, 0), fire % 5 == 0 ? NONE : fire);
            CHECK.due("the farm's number", x.booked(2, 1), fire % 5 == 0 ? NONE : 2);
            for (int i = 0; i < 3; i++) {
                due[i] += (i == fire % 3 ? 30 * (fire % 5) : 0) - 10 * (fire % 5);
                CHECK.due("account of " + i + " behind fire " + fire, x.account(i), due[i]);
            }
        }
        CHECK.due("all accounts", x.account(0) + x.account(1) + x.account(2), 0);
    }

    /** Asking for awards and calls, as KNOWN on any day, books nothing and changes no booking. */
    private static void questionsDoNotBook() {
        Mutual x = Scenes.burning(100, 0, 100);
        x.note(1, 0, 0, 100);
        x.close(0);
        x.pass(1);
        x.note(0, 0, 0, 300);
        x.award(0, 0, 0);
        x.call(0, 1, 0);
        CHECK.due("nothing is booked", x.count(6), 0);
        CHECK.due("account", x.account(0), 0);
        CHECK.due("book as known today", x.book(), 2);
        CHECK.due("account", x.account(0), 75);
        x.call(0, 0, 0);
        x.award(0, 0, 5);
        CHECK.due("nothing new", x.book(), 0);
    }
}
