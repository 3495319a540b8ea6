/** Promises 1 to 21: each argument's first and last value that is taken, those beside them, and what is full. */
public final class PromiseEdgesTest {
    private static final Check CHECK = new Check();
    private static final Edges EDGES = new Edges(CHECK);
    private static final int NONE = FireMutual.NONE;
    private static final int STAYS = -2;
    private static final int BLANKS = 0x20202020;

    public static void main(String[] args) {
        scenesAreAsInTheModel();
        aNewObject();
        feed();
        vote();
        fault();
        undo();
        pass();
        farm();
        note();
        worth();
        law();
        fire();
        judge();
        say();
        close();
        look();
        award();
        call();
        book();
        booked();
        account();
        count();
        CHECK.end();
    }

    private static long one(boolean answer) {
        return answer ? 1 : 0;
    }

    private static void scenesAreAsInTheModel() {
        Scenes.Scene[] all = {
            Scenes.EMPTY, Scenes.LIVELY, Scenes.ELEVEN_FARMS, Scenes.TWELVE_FARMS, Scenes.NOTES_199, Scenes.NOTES_200,
            Scenes.NINE_TEXTS, Scenes.TEN_TEXTS, Scenes.ELEVEN_FIRES, Scenes.TWELVE_FIRES, Scenes.TAPE_980, Scenes.TAPE_1000,
            Scenes.LAST_DAY
        };
        for (int i = 0; i < all.length; i++) {
            EDGES.taken("scene " + i, all[i], NONE, x -> 0);
        }
        int[][] due = {
            {1, Scenes.LIVELY_TODAY, Scenes.LIVELY_FARMS, 3, 10, Scenes.LIVELY_FIRES}, {3, 5, 12, 3, 10, 2}, {5, 5, 5, 3, 200, 2},
            {7, 5, 5, 10, 10, 2}, {9, 5, 5, 3, 10, 12}, {12, 719, 5, 3, 10, 2}
        };
        for (int[] row : due) {
            Mutual x = new Mutual();
            all[row[0]].play(x);
            for (int what = 0; what <= 4; what++) {
                CHECK.due("scene " + row[0] + ", count(" + what + ")", x.count(what), row[what + 1]);
            }
        }
    }

    /** "DAY 0, no FARMS, an empty TAPE." */
    private static void aNewObject() {
        for (int i = 0; i <= 6; i++) {
            int what = i;
            EDGES.asked("new: count(" + what + ")", Scenes.EMPTY, 0, x -> x.count(what));
        }
        EDGES.refused("new: a vote of one byte", Scenes.EMPTY, STAYS, x -> x.vote(1, 0));
        EDGES.asked("new: fault(0)", Scenes.EMPTY, 0, x -> x.fault(0));
        EDGES.asked("new: fault(1)", Scenes.EMPTY, NONE, x -> x.fault(1));
        EDGES.refused("new: undo(0)", Scenes.EMPTY, 0, x -> one(x.undo(0)));
        EDGES.refused("new: note of farm 0", Scenes.EMPTY, NONE, x -> x.note(0, 0, 0, 0));
        EDGES.refused("new: worth of farm 0", Scenes.EMPTY, NONE, x -> x.worth(0, 0, 0, 0));
        EDGES.refused("new: fire of farm 0", Scenes.EMPTY, NONE, x -> x.fire(0, 0));
        EDGES.refused("new: judge of fire 0", Scenes.EMPTY, Check.OUT_OF_BOUNDS, x -> x.judge(0, 0));
        EDGES.refused("new: look at fire 0", Scenes.EMPTY, Check.OUT_OF_BOUNDS, x -> x.look(0, 0));
        EDGES.refused("new: say of fire 0", Scenes.EMPTY, 0, x -> one(x.say(0, 0, 0, 0)));
        EDGES.refused("new: close(0)", Scenes.EMPTY, 0, x -> one(x.close(0)));
        EDGES.refused("new: award of fire 0", Scenes.EMPTY, NONE, x -> x.award(0, 0, 0));
        EDGES.refused("new: call of fire 0", Scenes.EMPTY, NONE, x -> x.call(0, 0, 0));
        EDGES.asked("new: book()", Scenes.EMPTY, 0, x -> x.book());
        EDGES.refused("new: booked(0, 0)", Scenes.EMPTY, NONE, x -> x.booked(0, 0));
        EDGES.refused("new: account(0)", Scenes.EMPTY, Check.NO_SUCH_ELEMENT, x -> x.account(0));
        EDGES.range("new: KNOWN", Scenes.EMPTY, 0, 0, NONE, (x, v) -> x.law(0, 0, v));
    }

    /** "NONE, and none come, if it would have more than 1000." */
    private static void feed() {
        EDGES.taken("the first twenty", Scenes.EMPTY, NONE, x -> x.feed(BLANKS, BLANKS, BLANKS, BLANKS, BLANKS));
        EDGES.taken("up to 1000", Scenes.TAPE_980, NONE, x -> x.feed(BLANKS, BLANKS, BLANKS, BLANKS, 0x6f776e31));
        EDGES.refused("beyond 1000", Scenes.TAPE_1000, NONE, x -> x.feed(0, 0, 0, 0, 0));
        EDGES.refused("beyond 1000", Scenes.TAPE_1000, NONE, x -> x.feed(-1, BLANKS, Integer.MIN_VALUE, Integer.MAX_VALUE, 1));
        EDGES.taken("any numbers", Scenes.LIVELY, NONE, x -> x.feed(Integer.MIN_VALUE, Integer.MAX_VALUE, -1, 0, 1));
        Mutual x = new Mutual();
        Scenes.TAPE_1000.play(x);
        CHECK.due("a refused feed", x.feed(0, 0, 0, 0, 0), NONE);
        CHECK.due("all 1000 are there", x.vote(1000, 0), 3);
        CHECK.due("their first", x.law(14, 0, 5), 5);
        CHECK.due("their last", x.law(15, 0, 5), 321);
        CHECK.due("then there is room again", x.feed(0, 0, 0, 0, 0), 20);
    }

    /** "-2, and the TAPE stays: no such n, DAY, or there are 10." */
    private static void vote() {
        EDGES.range("vote's n", Scenes.LIVELY, 0, Scenes.LIVELY_TAPE, STAYS, (x, v) -> x.vote(v, 0));
        EDGES.range("vote's n of a full tape", Scenes.TAPE_1000, 0, 1000, STAYS, (x, v) -> x.vote(v, 0));
        EDGES.range("vote's n of an empty tape", Scenes.EMPTY, 0, 0, STAYS, (x, v) -> x.vote(v, 0));
        EDGES.range("vote's DAY", Scenes.LIVELY, 0, 719, STAYS, (x, v) -> x.vote(20, v));
        EDGES.range("vote's DAY on the last day", Scenes.LAST_DAY, 0, 719, STAYS, (x, v) -> x.vote(20, v));
        EDGES.taken("the tenth text", Scenes.NINE_TEXTS, STAYS, x -> x.vote(20, 0));
        EDGES.taken("a fault where the tenth would be", Scenes.NINE_TEXTS, STAYS, x -> x.vote(5, 0));
        EDGES.refused("an eleventh text", Scenes.TEN_TEXTS, STAYS, x -> x.vote(20, 0));
        EDGES.refused("an eleventh text, empty", Scenes.TEN_TEXTS, STAYS, x -> x.vote(0, 0));
        EDGES.refused("an eleventh text at fault", Scenes.TEN_TEXTS, STAYS, x -> x.vote(5, 0));
        EDGES.refused("no such n and no such DAY", Scenes.LIVELY, STAYS, x -> x.vote(21, 720));
        EDGES.taken("n of a part", Scenes.LIVELY, STAYS, x -> x.vote(6, 0));
        EDGES.taken("n of a part at fault", Scenes.LIVELY, STAYS, x -> x.vote(5, 719));
    }

    /** "Of the latest vote() that was not -2 .. NONE for another what." */
    private static void fault() {
        EDGES.asked("fault(0)", Scenes.LIVELY, 2, x -> x.fault(0));
        EDGES.asked("fault(1)", Scenes.LIVELY, 4, x -> x.fault(1));
        EDGES.range("fault's what", Scenes.LIVELY, 0, 1, NONE, (x, v) -> x.fault(v));
        Mutual x = new Mutual();
        Scenes.LIVELY.play(x);
        CHECK.due("a refused vote", x.vote(20, 720), STAYS);
        CHECK.due("leaves the fault", x.fault(0), 2);
        CHECK.due("and its place", x.fault(1), 4);
        CHECK.due("a sound vote", x.vote(20, 719), 3);
        CHECK.due("has none", x.fault(0), 0);
        CHECK.due("and no place", x.fault(1), NONE);
        CHECK.due("a refused vote", x.vote(1, 0), STAYS);
        CHECK.due("leaves that", x.fault(0), 0);
        CHECK.due("and that", x.fault(1), NONE);
    }

    /** "false: no such one, or it is." */
    private static void undo() {
        // Text 2 is undone, so that it is refused like what stands beside the first and the last.
        EDGES.range("undo's TEXT", Scenes.TEN_TEXTS, 3, 9, 0, (x, v) -> one(x.undo(v)));
        EDGES.taken("undo's TEXT 0", Scenes.LIVELY, 0, x -> one(x.undo(0)));
        EDGES.refused("undo's TEXT -1", Scenes.LIVELY, 0, x -> one(x.undo(-1)));
        EDGES.refused("it is undone", Scenes.LIVELY, 0, x -> one(x.undo(2)));
        EDGES.refused("it is undone, on a later day", Scenes.LAST_DAY, 0, x -> one(x.undo(2)));
        EDGES.taken("on the last day", Scenes.LAST_DAY, 0, x -> one(x.undo(0)));
        EDGES.refused("no such TEXT", Scenes.LIVELY, 0, x -> one(x.undo(3)));
    }

    /** "NONE, and nothing happens: no such number, or beyond 719." */
    private static void pass() {
        EDGES.range("pass on day 5", Scenes.LIVELY, 0, 714, NONE, (x, v) -> x.pass(v));
        EDGES.range("pass on day 0", Scenes.EMPTY, 0, 719, NONE, (x, v) -> x.pass(v));
        EDGES.range("pass on day 719", Scenes.LAST_DAY, 0, 0, NONE, (x, v) -> x.pass(v));
        EDGES.refused("720 days", Scenes.LIVELY, NONE, x -> x.pass(720));
        EDGES.refused("721 days", Scenes.LIVELY, NONE, x -> x.pass(721));
        EDGES.refused("round to day 4", Scenes.LIVELY, NONE, x -> x.pass(Integer.MAX_VALUE - 4));
    }

    /** "NONE: no such KIN, or there are 12." */
    private static void farm() {
        EDGES.range("farm's KIN", Scenes.LIVELY, 0, 9, NONE, (x, v) -> x.farm(v));
        EDGES.range("farm's KIN, the twelfth", Scenes.ELEVEN_FARMS, 0, 9, NONE, (x, v) -> x.farm(v));
        EDGES.taken("on the last day", Scenes.LAST_DAY, NONE, x -> x.farm(0));
        for (int kin = -1; kin <= 10; kin++) {
            int of = kin;
            EDGES.refused("a thirteenth farm of KIN " + of, Scenes.TWELVE_FARMS, NONE, x -> x.farm(of));
        }
    }

    /** "NONE if it can't be (no such FARM, what, DAY, v, or 200 there are)." */
    private static void note() {
        EDGES.range("note's FARM", Scenes.LIVELY, 0, Scenes.LIVELY_FARMS - 1, NONE, (x, v) -> x.note(v, 2, 0, 5));
        EDGES.range("note's FARM of twelve", Scenes.TWELVE_FARMS, 0, 11, NONE, (x, v) -> x.note(v, 2, 0, 5));
        EDGES.range("note's what", Scenes.LIVELY, 0, 8, NONE, (x, v) -> x.note(1, v, 0, 5));
        EDGES.range("note's DAY", Scenes.LIVELY, 0, 719, NONE, (x, v) -> x.note(1, 2, v, 5));
        for (int i = 0; i <= 8; i++) {
            int what = i;
            EDGES.range("note's v of " + what, Scenes.LIVELY, 0, what == 8 ? 99 : 10000, NONE, (x, v) -> x.note(1, what, 0, v));
        }
        EDGES.taken("note 200", Scenes.NOTES_199, NONE, x -> x.note(0, 0, 0, 5));
        EDGES.refused("note 200 of no such v", Scenes.NOTES_199, NONE, x -> x.note(0, 0, 0, 10001));
        EDGES.refused("note 201", Scenes.NOTES_200, NONE, x -> x.note(0, 0, 0, 5));
        EDGES.refused("note 201 of another farm and what", Scenes.NOTES_200, NONE, x -> x.note(3, 8, 719, 0));
    }

    /** "NONE: no such FARM, what, DAYS (KNOWN at most TODAY)." */
    private static void worth() {
        EDGES.range("worth's FARM", Scenes.LIVELY, 0, Scenes.LIVELY_FARMS - 1, NONE, (x, v) -> x.worth(v, 0, 0, 0));
        EDGES.range("worth's FARM of twelve", Scenes.TWELVE_FARMS, 0, 11, NONE, (x, v) -> x.worth(v, 0, 0, 0));
        EDGES.range("worth's what", Scenes.LIVELY, 0, 8, NONE, (x, v) -> x.worth(0, v, 5, 5));
        EDGES.range("worth's DAY", Scenes.LIVELY, 0, 719, NONE, (x, v) -> x.worth(0, 0, v, 5));
        EDGES.range("worth's KNOWN", Scenes.LIVELY, 0, Scenes.LIVELY_TODAY, NONE, (x, v) -> x.worth(0, 0, 5, v));
        EDGES.range("worth's KNOWN on the last day", Scenes.LAST_DAY, 0, 719, NONE, (x, v) -> x.worth(0, 0, 5, v));
    }

    /** "NONE: no such what, DAYS." */
    private static void law() {
        EDGES.range("law's what", Scenes.LIVELY, 0, 18, NONE, (x, v) -> x.law(v, 5, 5));
        EDGES.range("law's DAY", Scenes.LIVELY, 0, 719, NONE, (x, v) -> x.law(15, v, 5));
        EDGES.range("law's KNOWN", Scenes.LIVELY, 0, Scenes.LIVELY_TODAY, NONE, (x, v) -> x.law(15, 5, v));
        EDGES.range("law's KNOWN on the last day", Scenes.LAST_DAY, 0, 719, NONE, (x, v) -> x.law(15, 5, v));
    }

    /** "NONE: no such FARM, or there are 12." */
    private static void fire() {
        EDGES.range("fire's FARM", Scenes.LIVELY, 0, Scenes.LIVELY_FARMS - 1, NONE, (x, v) -> x.fire(v, 3));
        EDGES.range("fire's FARM of twelve", Scenes.TWELVE_FARMS, 0, 11, NONE, (x, v) -> x.fire(v, 3));
        for (int seed : new int[] {0, 1, -1, Integer.MIN_VALUE, Integer.MAX_VALUE}) {
            EDGES.taken("seed " + seed, Scenes.TWELVE_FARMS, NONE, x -> x.fire(5, seed));
        }
        EDGES.taken("the twelfth fire", Scenes.ELEVEN_FIRES, NONE, x -> x.fire(0, 1));
        EDGES.refused("the twelfth fire of no such FARM", Scenes.ELEVEN_FIRES, NONE, x -> x.fire(5, 1));
        for (int farm = -1; farm <= Scenes.LIVELY_FARMS; farm++) {
            int of = farm;
            EDGES.refused("a thirteenth fire of " + of, Scenes.TWELVE_FIRES, NONE, x -> x.fire(of, 1));
        }
        EDGES.taken("on the last day", Scenes.LAST_DAY, NONE, x -> x.fire(0, 1));
    }

    /** "IndexOutOfBoundsException: no such FIRE. NoSuchElementException: no such JUDGE." */
    private static void judge() {
        EDGES.range("judge's FIRE", Scenes.LIVELY, 0, 1, Check.OUT_OF_BOUNDS, (x, v) -> x.judge(v, 0));
        EDGES.range("judge's FIRE of twelve", Scenes.TWELVE_FIRES, 0, 11, Check.OUT_OF_BOUNDS, (x, v) -> x.judge(v, 0));
        EDGES.range("no such FIRE, whatever the JUDGE", Scenes.LIVELY, 0, 1, Check.OUT_OF_BOUNDS, (x, v) -> x.judge(v, -1));
        EDGES.range("JUDGE of two", Scenes.LIVELY, 0, 1, Check.NO_SUCH_ELEMENT, (x, v) -> x.judge(0, v));
        EDGES.range("JUDGE of three", Scenes.LIVELY, 0, 2, Check.NO_SUCH_ELEMENT, (x, v) -> x.judge(1, v));
        Scenes.Scene alone = x -> {
            x.farm(3);
            x.farm(3);
            x.fire(1, 0);
        };
        for (int v : new int[] {-1, 0, 1, 2, 3, Integer.MIN_VALUE, Integer.MAX_VALUE}) {
            EDGES.refused("JUDGE " + v + " of none", alone, Check.NO_SUCH_ELEMENT, x -> x.judge(0, v));
            EDGES.refused("say of JUDGE " + v + " of none", alone, 0, x -> one(x.say(0, v, 0, 50)));
        }
    }

    /** "false: none such, hundredths not 0 .. 100, or the FIRE is CLOSED." */
    private static void say() {
        EDGES.range("say's FIRE", Scenes.LIVELY, 1, 1, 0, (x, v) -> one(x.say(v, 0, 0, 50)));
        EDGES.range("say's FIRE of twelve", Scenes.TWELVE_FIRES, 1, 11, 0, (x, v) -> one(x.say(v, 0, 0, 50)));
        EDGES.range("say's JUDGE of three", Scenes.LIVELY, 0, 2, 0, (x, v) -> one(x.say(1, v, 0, 50)));
        EDGES.range("say's CLASS", Scenes.LIVELY, 0, 3, 0, (x, v) -> one(x.say(1, 1, v, 50)));
        EDGES.range("say's hundredths", Scenes.LIVELY, 0, 100, 0, (x, v) -> one(x.say(1, 1, 0, v)));
        for (int k = -1; k <= 3; k++) {
            int of = k;
            EDGES.refused("a CLOSED fire's JUDGE " + of, Scenes.LIVELY, 0, x -> one(x.say(0, of, 0, 50)));
        }
        Scenes.Scene two = x -> {
            x.farm(3);
            x.farm(4);
            x.farm(4);
            x.note(0, 0, 0, 100);
            x.fire(0, 0);
            x.say(0, 0, 0, 70);
            x.say(0, 1, 0, 80);
        };
        EDGES.range("say's JUDGE of two", two, 0, 1, 0, (x, v) -> one(x.say(0, v, 0, 50)));
    }

    /** "false: none such, or it is." */
    private static void close() {
        EDGES.range("close's FIRE", Scenes.TWELVE_FIRES, 1, 11, 0, (x, v) -> one(x.close(v)));
        EDGES.refused("it is CLOSED", Scenes.LIVELY, 0, x -> one(x.close(0)));
        EDGES.refused("no such FIRE", Scenes.LIVELY, 0, x -> one(x.close(2)));
        EDGES.refused("no such FIRE", Scenes.LIVELY, 0, x -> one(x.close(-1)));
        EDGES.taken("on the last day", Scenes.LAST_DAY, 0, x -> one(x.close(1)));
    }

    /** "Exceptions as of judge() (no such what)." */
    private static void look() {
        EDGES.range("look's FIRE", Scenes.LIVELY, 0, 1, Check.OUT_OF_BOUNDS, (x, v) -> x.look(v, 7));
        EDGES.range("look's FIRE of twelve", Scenes.TWELVE_FIRES, 0, 11, Check.OUT_OF_BOUNDS, (x, v) -> x.look(v, 0));
        EDGES.range("no such FIRE, whatever the what", Scenes.LIVELY, 0, 1, Check.OUT_OF_BOUNDS, (x, v) -> x.look(v, 8));
        EDGES.range("look's what", Scenes.LIVELY, 0, 7, Check.NO_SUCH_ELEMENT, (x, v) -> x.look(1, v));
    }

    /** "NONE: no such FIRE, what, KNOWN (at most TODAY, not ahead of the FIRE's DAY)." */
    private static void award() {
        EDGES.range("award's FIRE", Scenes.LIVELY, 0, 1, NONE, (x, v) -> x.award(v, 5, 0));
        EDGES.range("award's FIRE of twelve", Scenes.TWELVE_FIRES, 0, 11, NONE, (x, v) -> x.award(v, 5, 0));
        EDGES.range("award's what", Scenes.LIVELY, 0, 5, NONE, (x, v) -> x.award(0, 5, v));
        EDGES.range("award's KNOWN", Scenes.LIVELY, 0, 5, NONE, (x, v) -> x.award(0, v, 0));
        EDGES.range("award's KNOWN of a fire on day 3", Scenes.LIVELY, 3, 5, NONE, (x, v) -> x.award(1, v, 0));
        EDGES.range("award's KNOWN on the last day", Scenes.LAST_DAY, 3, 719, NONE, (x, v) -> x.award(1, v, 5));
    }

    /** "NONE likewise, or no such FARM." */
    private static void call() {
        EDGES.range("call's FIRE", Scenes.LIVELY, 0, 1, NONE, (x, v) -> x.call(v, 0, 5));
        EDGES.range("call's FIRE of twelve", Scenes.TWELVE_FIRES, 0, 11, NONE, (x, v) -> x.call(v, 0, 5));
        EDGES.range("call's FARM", Scenes.LIVELY, 0, Scenes.LIVELY_FARMS - 1, NONE, (x, v) -> x.call(0, v, 5));
        EDGES.range("call's FARM of twelve", Scenes.TWELVE_FARMS, 0, 11, NONE, (x, v) -> x.call(1, v, 5));
        EDGES.range("call's KNOWN", Scenes.LIVELY, 0, 5, NONE, (x, v) -> x.call(0, 0, v));
        EDGES.range("call's KNOWN of a fire on day 3", Scenes.LIVELY, 3, 5, NONE, (x, v) -> x.call(1, 0, v));
        EDGES.range("call's KNOWN on the last day", Scenes.LAST_DAY, 3, 719, NONE, (x, v) -> x.call(1, 0, v));
    }

    /** "All is booked: how many bookings that are not 0." */
    private static void book() {
        EDGES.taken("book() of a difference", Scenes.LIVELY, 0, x -> x.book());
        EDGES.taken("book() of twelve fires", Scenes.TWELVE_FIRES, 0, x -> x.book());
        EDGES.taken("book() on the last day", Scenes.LAST_DAY, 0, x -> x.book());
        Mutual x = new Mutual();
        Scenes.LIVELY.play(x);
        CHECK.due("book()", x.book(), 3);
        CHECK.due("book() at once again", x.book(), 0);
        CHECK.due("booked(0, 0) then", x.booked(0, 0), NONE);
        CHECK.due("book() once more", x.book(), 0);
    }

    /** "NONE if there is none such." */
    private static void booked() {
        Mutual x = new Mutual();
        Scenes.LIVELY.play(x);
        CHECK.due("what the latest book() booked", x.booked(2, 2) != NONE, true);
        EDGES.range("booked's k", Scenes.LIVELY, 0, 2, NONE, (y, v) -> y.booked(v, 2));
        EDGES.range("booked's what", Scenes.LIVELY, 0, 2, NONE, (y, v) -> y.booked(0, v));
        EDGES.range("booked's k of a second book()", y -> {
            Scenes.LIVELY.play(y);
            y.book();
        }, 0, 2, NONE, (y, v) -> y.booked(v, 1));
        Scenes.Scene nothing = y -> {
            Scenes.LIVELY.play(y);
            y.book();
            y.book();
        };
        for (int k : new int[] {-1, 0, 1, 2, 144, Integer.MIN_VALUE, Integer.MAX_VALUE}) {
            EDGES.refused("booked(" + k + ", 0) of a book() of nothing", nothing, NONE, y -> y.booked(k, 0));
        }
    }

    /** "NoSuchElementException: no such FARM." */
    private static void account() {
        EDGES.range("account's FARM", Scenes.LIVELY, 0, Scenes.LIVELY_FARMS - 1, Check.NO_SUCH_ELEMENT, (x, v) -> x.account(v));
        EDGES.range("account's FARM of twelve", Scenes.TWELVE_FARMS, 0, 11, Check.NO_SUCH_ELEMENT, (x, v) -> x.account(v));
        EDGES.asked("account of who has just come", Scenes.LIVELY, 0, x -> x.account(4));
    }

    /** "NONE for another what." */
    private static void count() {
        EDGES.range("count's what", Scenes.LIVELY, 0, 6, NONE, (x, v) -> x.count(v));
        EDGES.range("count's what of a new object", Scenes.EMPTY, 0, 6, NONE, (x, v) -> x.count(v));
    }
}
