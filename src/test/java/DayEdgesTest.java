/** "Terms" 1, sentence by sentence: days, months, what is known, farms, notes. */
public final class DayEdgesTest {
    private static final Check CHECK = new Check();
    private static final int NONE = FireMutual.NONE;

    public static void main(String[] args) {
        daysOfEachCall();
        todayAtFirst();
        monthsGoRound();
        monthsOfFiresGoRound();
        notesAreKnownFromTheirDayOn();
        textsAreKnownFromTheirDayOn();
        farmsAreNumberedFromZero();
        refusedFarmsTakeNoNumber();
        kinsOfEachEnd();
        membersFromTheDayOn();
        notesAreCountedOverAll();
        fullNotesStillCount();
        worthsOfEachEnd();
        allIsZeroAtFirst();
        notesHoldFromTheirDayOn();
        theLatestDayCounts();
        ofLikeDaysTheOneToldLatest();
        CHECK.end();
    }

    private static Mutual withFarms(int many) {
        Mutual x = new Mutual();
        for (int i = 0; i < many; i++) {
            x.farm(i % 10);
        }
        return x;
    }

    /** "DAYS 0 .. 719": 719 is one, 720 is none, and neither goes round. */
    private static void daysOfEachCall() {
        int[] none = {-1, 720, 721, 1440, Integer.MIN_VALUE, Integer.MAX_VALUE};
        Mutual x = withFarms(1);
        for (int day : none) {
            CHECK.due("note from " + day, x.note(0, 0, day, 1), NONE);
            CHECK.due("worth on " + day, x.worth(0, 0, day, 0), NONE);
            CHECK.due("law on " + day, x.law(0, day, 0), NONE);
            CHECK.due("vote from " + day, x.vote(0, day), -2);
            CHECK.due("worth known on " + day, x.worth(0, 0, 0, day), NONE);
            CHECK.due("law known on " + day, x.law(0, 0, day), NONE);
        }
        CHECK.due("no text has come", x.count(2), 0);
        CHECK.due("no note has come", x.count(3), 0);
        CHECK.due("note from 719", x.note(0, 0, 719, 9), 1);
        CHECK.due("worth on 718", x.worth(0, 0, 718, 0), 0);
        CHECK.due("worth on 719", x.worth(0, 0, 719, 0), 9);
        CHECK.due("worth on 0", x.worth(0, 0, 0, 0), 0);
        Check.feed(x, "own 9;");
        CHECK.due("vote from 719", x.vote(6, 719), 0);
        CHECK.due("law on 718", x.law(14, 718, 0), 0);
        CHECK.due("law on 719", x.law(14, 719, 0), 9);
    }

    /** "TODAY 0 at first". */
    private static void todayAtFirst() {
        Mutual x = withFarms(1);
        CHECK.due("count(0)", x.count(0), 0);
        CHECK.due("known on 0", x.law(0, 0, 0), 1);
        CHECK.due("known on 1", x.law(0, 0, 1), NONE);
        x.fire(0, 0);
        CHECK.due("a fire's day", x.look(0, 1), 0);
        CHECK.due("pass(719)", x.pass(719), 719);
        x.fire(0, 0);
        CHECK.due("the last fire's day", x.look(1, 1), 719);
        CHECK.due("known on 719", x.law(0, 0, 719), 1);
        CHECK.due("known on 720", x.law(0, 0, 720), NONE);
    }

    /** "a DAY's MONTH is (DAY / 30) modulo 12": of each month the first and the last day, in both years. */
    private static void monthsGoRound() {
        Mutual x = new Mutual();
        Check.vote(x, "season hay: 20,21,22,23,24,25,26,27,28,29,30,31;", 0);
        for (int month = 0; month < 24; month++) {
            CHECK.due("first of " + month, x.law(7, 30 * month, 0), 20 + (month < 12 ? month : month - 12));
            CHECK.due("last of " + month, x.law(7, 30 * month + 29, 0), 20 + (month < 12 ? month : month - 12));
        }
        CHECK.due("359", x.law(7, 359, 0), 31);
        CHECK.due("360", x.law(7, 360, 0), 20);
        CHECK.due("719", x.law(7, 719, 0), 31);
    }

    /** The season of an AWARD is that of the FIRE's own MONTH, round the year's end too. */
    private static void monthsOfFiresGoRound() {
        Mutual x = withFarms(2);
        x.note(0, 3, 0, 100);
        Check.vote(x, "season hay: 20,21,22,23,24,25,26,27,28,29,30,31;", 0);
        int[] days = {0, 29, 30, 359, 360, 389, 390, 689, 690, 719};
        int[] due = {20, 20, 21, 31, 20, 20, 21, 30, 31, 31};
        for (int i = 0; i < days.length; i++) {
            x.pass(days[i] - x.count(0));
            CHECK.due("fire on " + days[i], x.fire(0, 0), i);
            x.say(i, 0, 3, 100);
            CHECK.due("award on " + days[i], x.award(i, days[i], 0), due[i]);
        }
        for (int i = 0; i < days.length; i++) {
            CHECK.due("award of " + days[i] + " as known on the last day", x.award(i, 719, 0), due[i]);
        }
    }

    /** "What is told is KNOWN from TODAY on": a note. */
    private static void notesAreKnownFromTheirDayOn() {
        Mutual x = withFarms(1);
        x.pass(40);
        x.note(0, 2, 0, 7);
        CHECK.due("on the day ahead", x.worth(0, 2, 719, 39), 0);
        CHECK.due("on that day", x.worth(0, 2, 719, 40), 7);
        CHECK.due("for a day long past", x.worth(0, 2, 0, 40), 7);
        x.pass(679);
        x.note(0, 2, 0, 8);
        CHECK.due("told on the last day, known on the one ahead", x.worth(0, 2, 0, 718), 7);
        CHECK.due("told on the last day", x.worth(0, 2, 0, 719), 8);
    }

    /** "What is told is KNOWN from TODAY on": a text. */
    private static void textsAreKnownFromTheirDayOn() {
        Mutual x = new Mutual();
        x.pass(40);
        Check.vote(x, "own 7;", 0);
        CHECK.due("on the day ahead", x.law(14, 719, 39), 0);
        CHECK.due("on that day", x.law(14, 719, 40), 7);
        CHECK.due("for a day long past", x.law(14, 0, 40), 7);
        x.pass(679);
        Check.vote(x, "own 8;", 0);
        CHECK.due("voted on the last day, known on the one ahead", x.law(14, 0, 718), 7);
        CHECK.due("voted on the last day", x.law(14, 0, 719), 8);
    }

    /** "FARMS, at most 12, numbered from 0 on". */
    private static void farmsAreNumberedFromZero() {
        Mutual x = new Mutual();
        for (int i = 0; i < 12; i++) {
            CHECK.due("count(1) ahead of farm " + i, x.count(1), i);
            CHECK.due("farm " + i + " is not there", x.note(i, 0, 0, 0), NONE);
            CHECK.due("farm " + i, x.farm(9), i);
            CHECK.due("farm " + i + " is there", x.worth(i, 0, 0, 0), 0);
        }
        CHECK.due("a thirteenth", x.farm(9), NONE);
        CHECK.due("count(1)", x.count(1), 12);
        CHECK.due("farm 12 is not there", x.worth(12, 0, 0, 0), NONE);
        CHECK.due("farm 12 does not burn", x.fire(12, 0), NONE);
        x.pass(1);
        CHECK.due("none leaves: a thirteenth", x.farm(0), NONE);
    }

    /** A refused farm takes no number. */
    private static void refusedFarmsTakeNoNumber() {
        Mutual x = new Mutual();
        CHECK.due("farm(-1)", x.farm(-1), NONE);
        CHECK.due("farm(10)", x.farm(10), NONE);
        CHECK.due("count(1)", x.count(1), 0);
        CHECK.due("the first", x.farm(0), 0);
        CHECK.due("farm(MAX)", x.farm(Integer.MAX_VALUE), NONE);
        CHECK.due("farm(MIN)", x.farm(Integer.MIN_VALUE), NONE);
        CHECK.due("the second", x.farm(9), 1);
    }

    /** "each of a KIN (0 .. 9)": the ten are ten kins, and the ends are no kin of one another. */
    private static void kinsOfEachEnd() {
        for (int kin = 0; kin <= 9; kin++) {
            Mutual x = new Mutual();
            x.farm(kin);
            for (int other = 0; other <= 9; other++) {
                x.farm(other);
            }
            x.farm(kin);
            int fire = x.fire(0, kin);
            CHECK.due("judges of kin " + kin, x.look(fire, 2), 3);
            Mutual y = new Mutual();
            y.farm(kin);
            y.farm((kin + 1) % 10);
            y.farm(kin);
            y.fire(0, kin);
            CHECK.due("one is no kin of " + kin, y.look(0, 2), 1);
            CHECK.due("it is farm 1", y.judge(0, 0), 1);
        }
    }

    /** "a member from the day on on which it came". */
    private static void membersFromTheDayOn() {
        Mutual x = withFarms(2);
        x.note(0, 0, 0, 100);
        x.pass(7);
        x.farm(2);
        x.fire(0, 1);
        CHECK.due("who came that day judges", x.look(0, 2), 2);
        x.say(0, 0, 0, 100);
        x.say(0, 1, 0, 100);
        x.note(2, 0, 0, 100);
        CHECK.due("and is called on", x.call(0, 2, 7), 50);
        x.pass(1);
        x.farm(3);
        x.note(3, 0, 0, 100);
        CHECK.due("who came on the next day is not", x.call(0, 3, 8), 0);
        CHECK.due("and bears nothing of the others' parts", x.call(0, 2, 8), 50);
        x.fire(0, 1);
        x.say(1, 0, 0, 100);
        x.say(1, 1, 0, 100);
        x.say(1, 2, 0, 100);
        CHECK.due("but of a fire on that day it is", x.call(1, 3, 8) + x.call(1, 2, 8) + x.call(1, 0, 8), 100);
        CHECK.due("by its part", x.call(1, 3, 8), 33);
    }

    /** "NOTES (at most 200)": of all farms and kinds together. */
    private static void notesAreCountedOverAll() {
        Mutual x = withFarms(12);
        for (int i = 0; i < 200; i++) {
            CHECK.due("count(3) ahead", x.count(3), i);
            CHECK.due("note " + i, x.note(i % 12, i % 9, i, 1), i + 1);
        }
        CHECK.due("note 201", x.note(0, 0, 0, 1), NONE);
        CHECK.due("note 201 of another", x.note(11, 8, 719, 1), NONE);
        CHECK.due("count(3)", x.count(3), 200);
    }

    /** The 200th counts as the first does, and a refused one does not. */
    private static void fullNotesStillCount() {
        Mutual x = withFarms(1);
        for (int i = 1; i <= 200; i++) {
            x.note(0, 1, 5, i);
        }
        CHECK.due("the 200th", x.worth(0, 1, 5, 0), 200);
        CHECK.due("a 201st", x.note(0, 1, 5, 201), NONE);
        CHECK.due("does not count", x.worth(0, 1, 5, 0), 200);
        CHECK.due("a 201st from a later day", x.note(0, 1, 6, 201), NONE);
        CHECK.due("does not count", x.worth(0, 1, 6, 0), 200);
        x.pass(1);
        CHECK.due("nor on another day", x.note(0, 2, 0, 1), NONE);
    }

    /** "(0 .. 10000 coins; ..), (0 .. 10000; ..), BUCKETS (0 .. 99; ..)". */
    private static void worthsOfEachEnd() {
        for (int what = 0; what <= 8; what++) {
            int most = what == 8 ? 99 : 10000;
            Mutual x = withFarms(1);
            CHECK.due("the most of " + what, x.note(0, what, 0, most), 1);
            CHECK.due("is there", x.worth(0, what, 0, 0), most);
            for (int v : new int[] {most + 1, -1, Integer.MIN_VALUE, Integer.MAX_VALUE, 65536, -65536}) {
                CHECK.due("note of " + what + ": " + v, x.note(0, what, 0, v), NONE);
                CHECK.due("still " + most, x.worth(0, what, 0, 0), most);
            }
            CHECK.due("count(3)", x.count(3), 1);
            CHECK.due("the least of " + what, x.note(0, what, 0, 0), 2);
            CHECK.due("is there", x.worth(0, what, 0, 0), 0);
        }
    }

    /** "0 at first". */
    private static void allIsZeroAtFirst() {
        Mutual x = withFarms(2);
        for (int what = 0; what <= 8; what++) {
            for (int day : new int[] {0, 1, 718, 719}) {
                CHECK.due("worth(1, " + what + ", " + day + ")", x.worth(1, what, day, 0), 0);
            }
        }
    }

    /** "from a DAY on". */
    private static void notesHoldFromTheirDayOn() {
        for (int from : new int[] {0, 1, 300, 718, 719}) {
            Mutual x = withFarms(1);
            x.note(0, 6, from, 55);
            if (from > 0) {
                CHECK.due("ahead of " + from, x.worth(0, 6, from - 1, 0), 0);
                CHECK.due("long ahead of " + from, x.worth(0, 6, 0, 0), 0);
            }
            CHECK.due("on " + from, x.worth(0, 6, from, 0), 55);
            CHECK.due("long after " + from, x.worth(0, 6, 719, 0), 55);
        }
    }

    /** "that with the latest DAY counts", however late another was told. */
    private static void theLatestDayCounts() {
        Mutual x = withFarms(1);
        x.note(0, 0, 10, 1);
        x.note(0, 0, 11, 2);
        x.note(0, 0, 9, 3);
        x.pass(1);
        x.note(0, 0, 0, 4);
        int[] days = {0, 8, 9, 10, 11, 12, 719};
        int[] due = {4, 4, 3, 1, 2, 2, 2};
        for (int i = 0; i < days.length; i++) {
            CHECK.due("on " + days[i], x.worth(0, 0, days[i], 1), due[i]);
        }
        CHECK.due("on 0, as known ahead", x.worth(0, 0, 0, 0), 0);
    }

    /** "of several the one told latest", on one day and on another. */
    private static void ofLikeDaysTheOneToldLatest() {
        Mutual x = withFarms(1);
        x.note(0, 0, 10, 5);
        x.note(0, 0, 10, 0);
        CHECK.due("0 in place of 5", x.worth(0, 0, 10, 0), 0);
        x.note(0, 0, 10, 3);
        CHECK.due("3 in place of 0", x.worth(0, 0, 10, 0), 3);
        x.pass(2);
        x.note(0, 0, 10, 2);
        CHECK.due("as known two days ahead", x.worth(0, 0, 10, 0), 3);
        CHECK.due("as known one day ahead", x.worth(0, 0, 10, 1), 3);
        CHECK.due("as known today", x.worth(0, 0, 10, 2), 2);
    }
}
