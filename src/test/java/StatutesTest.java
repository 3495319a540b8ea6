/** Promises 1 to 5 and 10: a new object, feed, vote, fault, undo, law. */
public final class StatutesTest {
    private static final Check CHECK = new Check();
    private static final String TWELVE = "1,2,3,4,5,6,7,8,9,10,11,12";

    public static void main(String[] args) {
        aNewObject();
        feeding();
        tapeIsCutAtItsLimit();
        bytesComeHighestFirst();
        votesRefused();
        votesTakeTheTape();
        tenTextsAtMost();
        tokensThatCantStand();
        textsThatEndTooEarly();
        numbersTooHigh();
        linesOfAKeyTwice();
        soundTexts();
        faultIsOfTheLatestVote();
        undoing();
        lawWithoutTexts();
        lawOfEachKind();
        lawByFromAndVote();
        lawAsKnown();
        noneHasNoEndButUndoing();
        seasonsByMonth();
        CHECK.end();
    }

    private static void aNewObject() {
        Mutual x = new Mutual();
        for (int what = 0; what <= 6; what++) {
            CHECK.due("new: count(" + what + ")", x.count(what), 0);
        }
        CHECK.due("new: vote(1, 0), the tape is empty", x.vote(1, 0), -2);
        CHECK.due("new: fault(0)", x.fault(0), 0);
        CHECK.due("new: fault(1)", x.fault(1), -1);
        CHECK.due("NONE", FireMutual.NONE, -1);
        Mutual y = new Mutual();
        y.feed(0, 0, 0, 0, 0);
        y.farm(0);
        CHECK.due("objects share nothing: vote", x.vote(1, 0), -2);
        CHECK.due("objects share nothing: count(1)", x.count(1), 0);
    }

    private static void feeding() {
        Mutual x = new Mutual();
        CHECK.due("feed", x.feed(0, 0, 0, 0, 0), 20);
        CHECK.due("feed", x.feed(-1, Integer.MIN_VALUE, Integer.MAX_VALUE, 0, 7), 40);
    }

    private static void tapeIsCutAtItsLimit() {
        Mutual x = new Mutual();
        int blanks = 0x20202020;
        for (int i = 1; i <= 50; i++) {
            CHECK.due("feed " + i, x.feed(blanks, blanks, blanks, blanks, blanks), 20 * i);
        }
        CHECK.due("feed beyond 1000", x.feed(blanks, blanks, blanks, blanks, blanks), -1);
        CHECK.due("vote(1001)", x.vote(1001, 0), -2);
        CHECK.due("vote(1000)", x.vote(1000, 0), 0);
        CHECK.due("feed anew", x.feed(blanks, blanks, blanks, blanks, blanks), 20);
    }

    private static void bytesComeHighestFirst() {
        Mutual x = new Mutual();
        // "own 12;" and blanks
        x.feed(0x6f776e20, 0x31323b20, 0x20202020, 0x0a0a0a0a, 0x20202020);
        CHECK.due("vote(20)", x.vote(20, 0), 0);
        CHECK.due("law(14)", x.law(14, 0, 0), 12);
        x.feed(0x72617465, 0x20686179, 0x20202020, 0x31322020, 0x20203b20);
        CHECK.due("vote of all five", x.vote(20, 0), 1);
        CHECK.due("law(3)", x.law(3, 0, 0), 12);
    }

    private static void votesRefused() {
        Mutual x = new Mutual();
        Check.feed(x, "own 12;");
        CHECK.due("vote(-1, 0)", x.vote(-1, 0), -2);
        CHECK.due("vote(21, 0)", x.vote(21, 0), -2);
        CHECK.due("vote(MIN, 0)", x.vote(Integer.MIN_VALUE, 0), -2);
        CHECK.due("vote(MAX, 0)", x.vote(Integer.MAX_VALUE, 0), -2);
        CHECK.due("vote(7, -1)", x.vote(7, -1), -2);
        CHECK.due("vote(7, 720)", x.vote(7, 720), -2);
        CHECK.due("the tape stayed: vote(7, 719)", x.vote(7, 719), 0);
        CHECK.due("law(14, 719, 0)", x.law(14, 719, 0), 12);
        CHECK.due("law(14, 718, 0)", x.law(14, 718, 0), 0);
    }

    private static void votesTakeTheTape() {
        Mutual x = new Mutual();
        Check.feed(x, "own 12;own 13;");
        CHECK.due("vote of the first 7", x.vote(7, 0), 0);
        CHECK.due("nothing is left", x.vote(1, 0), -2);
        CHECK.due("feed begins anew", x.feed(0, 0, 0, 0, 0), 20);
        CHECK.due("a fault takes the tape too", x.vote(1, 0), -1);
        CHECK.due("nothing is left", x.vote(1, 0), -2);
        Check.feed(x, "own 1;");
        CHECK.due("vote(0) of a tape", x.vote(0, 0), 1);
        CHECK.due("nothing is left", x.vote(1, 0), -2);
    }

    private static void tenTextsAtMost() {
        Mutual x = new Mutual();
        for (int i = 0; i < 10; i++) {
            CHECK.due("a fault is no text", Check.vote(x, "own", 0), -1);
            CHECK.due("text " + i, Check.vote(x, "own 1; rate hay 2;", 0), i);
        }
        x.undo(3);
        Check.feed(x, "own");
        CHECK.due("an eleventh", x.vote(3, 0), -2);
        CHECK.due("count(2)", x.count(2), 10);
        CHECK.due("count(5), undone ones too", x.count(5), 20);
    }

    private static void fault(String text, int fault, int place) {
        Mutual x = new Mutual();
        CHECK.due("vote of '" + text + "'", Check.vote(x, text, 0), -1);
        CHECK.due("fault(0) of '" + text + "'", x.fault(0), fault);
        CHECK.due("fault(1) of '" + text + "'", x.fault(1), place);
        CHECK.due("count(2) behind '" + text + "'", x.count(2), 0);
        CHECK.due("count(5) behind '" + text + "'", x.count(5), 0);
    }

    private static void tokensThatCantStand() {
        fault(";", 1, 0);
        fault("  own 1;  ;", 1, 10);
        fault("own;", 1, 3);
        fault("own less;", 1, 4);
        fault("own 1 2;", 1, 6);
        fault("own 1x;", 1, 5);
        fault("own -1;", 1, 4);
        fault("own\t1;", 1, 3);
        fault("own 1\r;", 1, 5);
        fault("oWn 1;", 1, 0);
        fault("ow n 1;", 1, 0);
        fault("owns 1;", 1, 0);
        fault("ownhay 1;", 1, 0);
        fault("hay 1;", 1, 0);
        fault("7;", 1, 0);
        fault("own 1, 2;", 1, 5);
        fault("own 1: 2;", 1, 5);
        fault("rate own 1;", 1, 5);
        fault("rate hays 1;", 1, 5);
        fault("rate ha 1;", 1, 5);
        fault("rate bay 1;", 1, 5);
        fault("rate haz 1;", 1, 5);
        fault("rate hayz 1;", 1, 5);
        fault("rate ahay 1;", 1, 5);
        fault("fate hay 1;", 1, 0);
        fault("rate hay hay;", 1, 9);
        fault("rate 5;", 1, 5);
        fault("none 5;", 1, 5);
        fault("none hay 5;", 1, 9);
        fault("season hay 1;", 1, 11);
        fault("season hay: ,", 1, 12);
        fault("season hay: 1;", 1, 13);
        fault("season hay: 1 2", 1, 14);
        fault("season hay: " + TWELVE + " 13;", 1, 39);
        fault("season hay: " + TWELVE + ",;", 1, 39);
        fault("season hay: " + TWELVE + ":", 1, 38);
        fault("duty less 1;", 1, 5);
        fault("duty 1 own 1;", 1, 7);
        fault("duty 1 less;", 1, 11);
        fault("duty 1 2;", 1, 7);
        fault("other 1;", 1, 7);
        fault("other hay 1;", 1, 6);
        fault("reserve ;", 1, 8);
        fault("own 1;\u0000", 1, 6);
        fault("own 1;\u00ff", 1, 6);
        fault("own 1;\u008a", 1, 6);
        fault("own 1;own 1\u00e1", 3, 6);
    }

    private static void textsThatEndTooEarly() {
        fault("own", 1, 3);
        fault("own ", 1, 4);
        fault("own 1 \n", 1, 7);
        fault("rate", 1, 4);
        fault("rate hay", 1, 8);
        fault("none", 1, 4);
        fault("none hay", 1, 8);
        fault("duty", 1, 4);
        fault("duty 5", 1, 6);
        fault("duty 5 less", 1, 11);
        fault("other 1", 1, 7);
        fault("other 1 5", 1, 9);
        fault("reserve 5", 1, 9);
        fault("season", 1, 6);
        fault("season hay", 1, 10);
        fault("season hay:", 1, 11);
        fault("season hay:1", 1, 12);
        fault("season hay:1,", 1, 13);
        fault("season hay:" + TWELVE, 1, 37);
        fault("season hay:" + TWELVE + ",", 1, 38);
    }

    private static void numbersTooHigh() {
        fault("reserve 1001;", 2, 8);
        fault("reserve 001001;", 2, 8);
        fault("reserve 4294967297;", 2, 8);
        fault("reserve 18446744073709551617;", 2, 8);
        fault("rate hay 1001 x", 2, 9);
        fault("own 101;", 2, 4);
        fault("own 1001;", 2, 4);
        fault("duty 1001 less 1;", 2, 5);
        fault("duty 1001 less 101;", 2, 5);
        fault("duty 1000 less 101;", 2, 15);
        fault("other 3 1;", 2, 6);
        fault("other 1001 1;", 2, 6);
        fault("other 2 1001;", 2, 8);
        fault("season hay: 1,1001;", 2, 14);
        fault("season hay: " + TWELVE + ",13;", 2, 39);
        fault("season hay: " + TWELVE + ", 1", 2, 40);
        fault("x 1001;", 1, 0);
        fault("own 1 1001;", 1, 6);
    }

    private static void linesOfAKeyTwice() {
        fault("own 1; own 1;", 3, 7);
        fault("reserve 1; rate hay 1; reserve 1;", 3, 23);
        fault("duty 1 less 1; duty 2 less 2;", 3, 15);
        fault("rate hay 0; rate barn 0; rate hay 0;", 3, 25);
        fault("none hay; none barn; none hay;", 3, 21);
        fault("other 0 1; other 1 1; other 0 2;", 3, 22);
        fault("season hay:" + TWELVE + "; season hay:" + TWELVE + ";", 3, 39);
        fault("own 0;own 0;", 3, 6);
        fault("own 1; own 101;", 2, 11);
        fault("own 1; own x;", 1, 11);
        fault("own 1; own", 1, 10);
        fault("rate hay 1; rate hay", 1, 20);
        fault("duty 1 less 1; duty 2 less 200;", 2, 27);
        fault("other 0 1; other 0 1001;", 2, 19);
        fault("season hay:" + TWELVE + "; season hay:1;", 1, 51);
        fault("season hay:" + TWELVE + "; season hay:" + TWELVE + ",13;", 2, 77);
        // What stands behind a whole line is not within it.
        fault("own 1; own 2", 3, 7);
        fault("own 1; own 2 own", 3, 7);
        fault("own 1; own 2; own 101;", 3, 7);
    }

    private static void soundTexts() {
        Mutual x = new Mutual();
        CHECK.due("an empty text", Check.vote(x, "", 0), 0);
        CHECK.due("blanks", Check.vote(x, " \n \n", 0), 1);
        CHECK.due("count(5)", x.count(5), 0);
        CHECK.due("no blanks", Check.vote(x, "own1;rate hay2;duty3less4;other0 5;", 0), 2);
        CHECK.due("count(5)", x.count(5), 4);
        CHECK.due("own1", x.law(14, 0, 0), 1);
        CHECK.due("rate hay2", x.law(3, 0, 0), 2);
        CHECK.due("duty3less4", x.law(13, 0, 0), 4);
        CHECK.due("other0 5", x.law(16, 0, 0), 5);
        String edges = "own 100;reserve 1000;duty 1000 less 100;other 2 1000;other 0 0;rate hay 0;"
            + "season hay\n:\n1000,0,0,0,0,0,0,0,0,0,0,00000000000000000009 ;";
        CHECK.due("the edges", Check.vote(x, edges, 0), 3);
        CHECK.due("count(5)", x.count(5), 11);
        CHECK.due("own 100", x.law(14, 0, 0), 100);
        CHECK.due("reserve 1000", x.law(15, 0, 0), 1000);
        CHECK.due("duty 1000", x.law(12, 0, 0), 1000);
        CHECK.due("less 100", x.law(13, 0, 0), 100);
        CHECK.due("other 2", x.law(18, 0, 0), 1000);
        CHECK.due("other 0", x.law(16, 0, 0), 0);
        CHECK.due("rate hay 0", x.law(3, 0, 0), 0);
        CHECK.due("season, month 0", x.law(7, 0, 0), 1000);
        CHECK.due("season, month 11", x.law(7, 330, 0), 9);
    }

    private static void faultIsOfTheLatestVote() {
        Mutual x = new Mutual();
        Check.vote(x, "own 101;", 0);
        CHECK.due("fault(0)", x.fault(0), 2);
        CHECK.due("fault(2)", x.fault(2), -1);
        CHECK.due("fault(-1)", x.fault(-1), -1);
        x.vote(5, 0);
        CHECK.due("fault(0) behind a -2", x.fault(0), 2);
        CHECK.due("fault(1) behind a -2", x.fault(1), 4);
        Check.vote(x, "own 100;", 0);
        CHECK.due("fault(0) behind a sound one", x.fault(0), 0);
        CHECK.due("fault(1) behind a sound one", x.fault(1), -1);
    }

    private static void undoing() {
        Mutual x = new Mutual();
        CHECK.due("undo(0) of none", x.undo(0), false);
        Check.vote(x, "own 10;", 0);
        Check.vote(x, "own 20;", 0);
        CHECK.due("undo(-1)", x.undo(-1), false);
        CHECK.due("undo(2)", x.undo(2), false);
        CHECK.due("undo(MAX)", x.undo(Integer.MAX_VALUE), false);
        x.pass(5);
        CHECK.due("undo(1)", x.undo(1), true);
        CHECK.due("undo(1) again", x.undo(1), false);
        CHECK.due("law known on 4", x.law(14, 0, 4), 20);
        CHECK.due("law known on 5", x.law(14, 0, 5), 10);
        CHECK.due("an undone text stays one", x.count(2), 2);
        CHECK.due("and so do its lines", x.count(5), 2);
        x.pass(714);
        CHECK.due("undo(0) on the last day", x.undo(0), true);
        CHECK.due("undo(0) again", x.undo(0), false);
        CHECK.due("law known on 718", x.law(14, 0, 718), 10);
        CHECK.due("law known on 719", x.law(14, 0, 719), 0);
    }

    private static void lawWithoutTexts() {
        Mutual x = new Mutual();
        int[] due = {1, 1, 1, 1, 100, 100, 100, 100, 1, 1, 1, 1, 0, 0, 0, 0, 0, 0, 0};
        for (int what = 0; what < due.length; what++) {
            CHECK.due("law(" + what + ", 719, 0)", x.law(what, 719, 0), due[what]);
        }
        CHECK.due("law(19, 0, 0)", x.law(19, 0, 0), -1);
        CHECK.due("law(-1, 0, 0)", x.law(-1, 0, 0), -1);
        CHECK.due("law(0, -1, 0)", x.law(0, -1, 0), -1);
        CHECK.due("law(0, 720, 0)", x.law(0, 720, 0), -1);
        CHECK.due("law(0, 0, -1)", x.law(0, 0, -1), -1);
        CHECK.due("law(0, 0, 1)", x.law(0, 0, 1), -1);
        x.pass(1);
        CHECK.due("law(0, 0, 1) on day 1", x.law(0, 0, 1), 1);
    }

    private static void lawOfEachKind() {
        Mutual x = new Mutual();
        Check.vote(x, "rate house 11; rate barn 12; rate beasts 13; rate hay 14; none barn; none hay;", 0);
        Check.vote(x, "duty 15 less 16; own 17; reserve 18; other 0 19; other 1 20; other 2 21;", 0);
        for (int kind = 0; kind < 4; kind++) {
            String name = new String[] {"house", "barn", "beasts", "hay"}[kind];
            Check.vote(x, "season " + name + ": " + (22 + kind) + ",1,1,1,1,1,1,1,1,1,1,1;", 0);
        }
        int[] due = {11, 12, 13, 14, 22, 23, 24, 25, 1, 0, 1, 0, 15, 16, 17, 18, 19, 20, 21};
        for (int what = 0; what < due.length; what++) {
            CHECK.due("law(" + what + ", 0, 0)", x.law(what, 0, 0), due[what]);
        }
        CHECK.due("count(5)", x.count(5), 16);
    }

    private static void lawByFromAndVote() {
        Mutual x = new Mutual();
        Check.vote(x, "own 1; reserve 9;", 100);
        Check.vote(x, "own 2;", 50);
        Check.vote(x, "own 3;", 100);
        Check.vote(x, "reserve 4;", 200);
        Check.vote(x, "own 5;", 50);
        CHECK.due("ahead of all", x.law(14, 49, 0), 0);
        CHECK.due("from 50: the one voted latest", x.law(14, 50, 0), 5);
        CHECK.due("from 50 on", x.law(14, 99, 0), 5);
        CHECK.due("from 100: the one voted latest", x.law(14, 100, 0), 3);
        CHECK.due("a text without that key does not hide it", x.law(14, 200, 0), 3);
        CHECK.due("reserve before", x.law(15, 199, 0), 9);
        CHECK.due("reserve", x.law(15, 200, 0), 4);
        x.undo(2);
        CHECK.due("the latest is undone", x.law(14, 100, 0), 1);
        x.undo(0);
        CHECK.due("that one too", x.law(14, 100, 0), 5);
    }

    private static void lawAsKnown() {
        Mutual x = new Mutual();
        x.pass(10);
        Check.vote(x, "own 1;", 0);
        x.pass(10);
        Check.vote(x, "own 2;", 5);
        x.pass(10);
        CHECK.due("known on 9", x.law(14, 7, 9), 0);
        CHECK.due("known on 10", x.law(14, 7, 10), 1);
        CHECK.due("known on 19", x.law(14, 7, 19), 1);
        CHECK.due("known on 20", x.law(14, 7, 20), 2);
        CHECK.due("day 4 known on 30", x.law(14, 4, 30), 1);
        CHECK.due("known on 31", x.law(14, 4, 31), -1);
    }

    private static void noneHasNoEndButUndoing() {
        Mutual x = new Mutual();
        Check.vote(x, "none hay;", 10);
        Check.vote(x, "rate hay 5;", 20);
        Check.vote(x, "none house;", 30);
        CHECK.due("hay on 9", x.law(11, 9, 0), 1);
        CHECK.due("hay on 10", x.law(11, 10, 0), 0);
        CHECK.due("hay on 719", x.law(11, 719, 0), 0);
        CHECK.due("house on 29", x.law(8, 29, 0), 1);
        CHECK.due("house on 30", x.law(8, 30, 0), 0);
        x.undo(0);
        CHECK.due("hay, undone", x.law(11, 719, 0), 1);
    }

    private static void seasonsByMonth() {
        Mutual x = new Mutual();
        Check.vote(x, "season barn: 1,2,3,4,5,6,7,8,9,10,11,12;", 0);
        for (int day = 0; day < 720; day += 10) {
            CHECK.due("season on " + day, x.law(5, day, 0), day / 30 % 12 + 1);
        }
        CHECK.due("season on 29", x.law(5, 29, 0), 1);
        CHECK.due("season on 30", x.law(5, 30, 0), 2);
        CHECK.due("season on 359", x.law(5, 359, 0), 12);
        CHECK.due("season on 360", x.law(5, 360, 0), 1);
        CHECK.due("season on 719", x.law(5, 719, 0), 12);
        CHECK.due("another class", x.law(4, 0, 0), 100);
    }
}
