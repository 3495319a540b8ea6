/** "Terms" 2, sentence by sentence: texts, faults, keys, and what counts. */
public final class TextEdgesTest {
    private static final Check CHECK = new Check();
    private static final int NONE = FireMutual.NONE;
    private static final String[] CLASSES = {"house", "barn", "beasts", "hay"};
    private static final String TWELVE = "1,2,3,4,5,6,7,8,9,10,11,12";

    public static void main(String[] args) {
        tenTexts();
        inForceFromItsDay();
        undoneFromThatDayOn();
        undoneOnTheDayOfItsVote();
        emptyTexts();
        numbersOfEachPlace();
        numbersAreDigits();
        blanksAreTwo();
        wordsAreSmallLetters();
        wordsLetterByLetter();
        digitsAreTen();
        marksAreThree();
        twelveNumbersOfASeason();
        faultsAtTheEnds();
        linesWithoutAClass();
        theFirstFaultAlongTheText();
        faultsWithinALineComeFirst();
        keysStandOnce();
        keysThatAreNotAlike();
        keysOfAnotherText();
        faultyTextsLeaveNothing();
        theLatestFromCounts();
        ofLikeFromsTheOneVotedLatest();
        withoutAnyLine();
        noneHasNoEnd();
        CHECK.end();
    }

    private static void taken(String text, int what, int due) {
        Mutual x = new Mutual();
        CHECK.due("vote of '" + text + "'", Check.vote(x, text, 0), 0);
        CHECK.due("fault(0) of '" + text + "'", x.fault(0), 0);
        CHECK.due("fault(1) of '" + text + "'", x.fault(1), NONE);
        CHECK.due("law(" + what + ") of '" + text + "'", x.law(what, 0, 0), due);
        CHECK.due("the tape behind '" + text + "'", x.vote(1, 0), -2);
    }

    private static void fault(String text, int fault, int place) {
        Mutual x = new Mutual();
        CHECK.due("vote of '" + text + "'", Check.vote(x, text, 0), NONE);
        CHECK.due("fault(0) of '" + text + "'", x.fault(0), fault);
        CHECK.due("fault(1) of '" + text + "'", x.fault(1), place);
        CHECK.due("the tape behind '" + text + "'", x.vote(1, 0), -2);
        CHECK.due("texts behind '" + text + "'", x.count(2), 0);
        CHECK.due("lines behind '" + text + "'", x.count(5), 0);
        for (int what = 0; what <= 18; what++) {
            CHECK.due("law(" + what + ") behind '" + text + "'", x.law(what, 0, 0), what < 4 ? 1 : what < 8 ? 100 : what < 12 ? 1 : 0);
        }
    }

    /** "at most 10 TEXTS": undone ones among them; a faulty one is none. */
    private static void tenTexts() {
        Mutual x = new Mutual();
        for (int i = 0; i < 10; i++) {
            CHECK.due("a faulty one", Check.vote(x, "own 101;", i), NONE);
            CHECK.due("text " + i, Check.vote(x, i == 9 ? "own 9;" : "own 1;", i), i);
            CHECK.due("count(2)", x.count(2), i + 1);
            CHECK.due("count(5)", x.count(5), i + 1);
        }
        CHECK.due("the tenth is in force", x.law(14, 9, 0), 9);
        Check.feed(x, "own 3; own 2;");
        CHECK.due("an eleventh", x.vote(6, 0), -2);
        CHECK.due("an eleventh at fault", x.vote(13, 0), -2);
        CHECK.due("no fault of it", x.fault(0), 0);
        CHECK.due("undo(0)", x.undo(0), true);
        CHECK.due("undone ones stay", x.vote(6, 0), -2);
        CHECK.due("the tape stayed", x.feed(0, 0, 0, 0, 0), 40);
        CHECK.due("count(2)", x.count(2), 10);
        CHECK.due("count(5)", x.count(5), 10);
        CHECK.due("undo(9)", x.undo(9), true);
        CHECK.due("undo(10)", x.undo(10), false);
    }

    /** "each in force from a told DAY (FROM) on". */
    private static void inForceFromItsDay() {
        for (int from : new int[] {0, 1, 359, 718, 719}) {
            Mutual x = new Mutual();
            Check.vote(x, "reserve 5;", from);
            if (from > 0) {
                CHECK.due("ahead of " + from, x.law(15, from - 1, 0), 0);
            }
            CHECK.due("on " + from, x.law(15, from, 0), 5);
            CHECK.due("on the last day", x.law(15, 719, 0), 5);
        }
        Mutual x = new Mutual();
        x.pass(100);
        Check.vote(x, "reserve 5;", 50);
        CHECK.due("from a day that is past", x.law(15, 50, 100), 5);
        CHECK.due("and not ahead of it", x.law(15, 49, 100), 0);
    }

    /** "unless it is undone (KNOWN from TODAY on)": for all days then, for none as known ahead. */
    private static void undoneFromThatDayOn() {
        Mutual x = new Mutual();
        Check.vote(x, "reserve 5;", 10);
        x.pass(20);
        CHECK.due("undo", x.undo(0), true);
        x.pass(1);
        for (int day : new int[] {10, 19, 20, 21, 719}) {
            CHECK.due("on " + day + ", as known on 19", x.law(15, day, 19), 5);
            CHECK.due("on " + day + ", as known on 20", x.law(15, day, 20), 0);
            CHECK.due("on " + day + ", as known on 21", x.law(15, day, 21), 0);
        }
        CHECK.due("undo again", x.undo(0), false);
        CHECK.due("leaves the day of the first", x.law(15, 10, 20), 0);
        CHECK.due("and the days ahead", x.law(15, 10, 19), 5);
    }

    /** Undone on the day of its vote, it was never KNOWN to be in force. */
    private static void undoneOnTheDayOfItsVote() {
        for (int day : new int[] {0, 5, 719}) {
            Mutual x = new Mutual();
            x.pass(day);
            Check.vote(x, "own 5; none hay;", 0);
            CHECK.due("in force", x.law(14, 0, day), 5);
            CHECK.due("undo", x.undo(0), true);
            CHECK.due("undone", x.law(14, 0, day), 0);
            CHECK.due("paid", x.law(11, 0, day), 1);
            CHECK.due("undo again", x.undo(0), false);
        }
    }

    /** "TEXT: { LINE ';' }": none at all is a text. */
    private static void emptyTexts() {
        Mutual x = new Mutual();
        CHECK.due("of an empty tape", x.vote(0, 0), 0);
        CHECK.due("of none of a tape", votedOf(x, "own 5;", 0), 1);
        CHECK.due("the tape is empty then", x.vote(1, 0), -2);
        CHECK.due("of blanks", Check.vote(x, " ", 0), 2);
        CHECK.due("of blanks", Check.vote(x, "\n", 0), 3);
        CHECK.due("no fault", x.fault(0), 0);
        CHECK.due("no place", x.fault(1), NONE);
        CHECK.due("count(2)", x.count(2), 4);
        CHECK.due("count(5)", x.count(5), 0);
        fault(";", 1, 0);
        fault("own 1;;", 1, 6);
        fault(" ;", 1, 1);
        StringBuilder thousand = new StringBuilder();
        for (int i = 0; i < 994; i++) {
            thousand.append(i % 2 == 0 ? ' ' : '\n');
        }
        taken(thousand + "own 7;", 14, 7);
        fault(thousand + "own 77", 1, 1000);
        fault(thousand + "own 7,", 1, 999);
        taken("own 7;" + thousand, 14, 7);
        fault("own 7 " + thousand, 1, 1000);
    }

    private static int votedOf(Mutual x, String text, int n) {
        Check.feed(x, text);
        return x.vote(n, 0);
    }

    /** "N: digits, 0 .. 1000"; "2 an N above 1000; .. an other of a number above 2; the less of a duty, own above 100 (at it)". */
    private static void numbersOfEachPlace() {
        for (int kind = 0; kind < 4; kind++) {
            number("rate " + CLASSES[kind] + " ", ";", 1000, kind);
            for (int month = 0; month < 12; month++) {
                String ahead = "season " + CLASSES[kind] + ":" + "1,".repeat(month);
                season(ahead, ",1".repeat(11 - month) + ";", kind, month);
            }
        }
        number("duty ", " less 5;", 1000, 12);
        number("duty 5 less ", ";", 100, 13);
        number("own ", ";", 100, 14);
        number("reserve ", ";", 1000, 15);
        for (int i = 0; i < 3; i++) {
            number("other " + i + " ", ";", 1000, 16 + i);
        }
        for (int n : new int[] {3, 4, 100, 1000, 1001}) {
            fault("other " + n + " 5;", 2, 6);
        }
        fault("other 3 1001;", 2, 6);
        fault("other 3", 2, 6);
        fault("other 3;", 2, 6);
    }

    private static void number(String ahead, String behind, int most, int what) {
        taken(ahead + "0" + behind, what, 0);
        taken(ahead + "1" + behind, what, 1);
        taken(ahead + (most - 1) + behind, what, most - 1);
        taken(ahead + most + behind, what, most);
        fault(ahead + (most + 1) + behind, 2, ahead.length());
        fault(ahead + "1001" + behind, 2, ahead.length());
        fault(ahead + "10000" + behind, 2, ahead.length());
        fault(ahead + "-1" + behind, 1, ahead.length());
    }

    private static void season(String ahead, String behind, int kind, int month) {
        for (int v : new int[] {0, 1000}) {
            Mutual x = new Mutual();
            CHECK.due("vote", Check.vote(x, ahead + v + behind, 0), 0);
            CHECK.due("month " + month, x.law(4 + kind, 30 * month, 0), v);
            CHECK.due("the month behind", x.law(4 + kind, (30 * month + 30) % 360, 0), 1);
            CHECK.due("the month ahead", x.law(4 + kind, (30 * month + 330) % 360, 0), 1);
            CHECK.due("another class", x.law(4 + (kind + 1) % 4, 30 * month, 0), 100);
        }
        fault(ahead + "1001" + behind, 2, ahead.length());
    }

    /** "N: digits": as many as one likes; none goes round to a small number. */
    private static void numbersAreDigits() {
        taken("own 00000000000000000000000000000000000000100;", 14, 100);
        taken("own 000;", 14, 0);
        fault("own 000000000000000000000000000000000000101;", 2, 4);
        // Round 32 bits, 64 bits, and ten times round.
        fault("own 4294967297;", 2, 4);
        fault("own 18446744073709551617;", 2, 4);
        fault("reserve 42949672960;", 2, 8);
        fault("reserve " + "9".repeat(900) + ";", 2, 8);
        fault("own 1 1;", 1, 6);
        taken("own" + "\n".repeat(3) + "9;", 14, 9);
    }

    /** "Blanks 10, 32": every other byte there can't stand. */
    private static void blanksAreTwo() {
        for (int sign = 0; sign < 256; sign++) {
            if (sign == 10 || sign == 32) {
                taken("own" + (char) sign + "5" + (char) sign + ";", 14, 5);
                taken((char) sign + "own 5;" + (char) sign, 14, 5);
            } else if (sign < '0' || sign > '9') {
                fault("own 5" + (char) sign + " ;", 1, sign == ';' ? 7 : 5);
                fault("own " + (char) sign + "5;", 1, 4);
            }
        }
    }

    /** "words: small letters in a row". */
    private static void wordsAreSmallLetters() {
        for (int sign = 0; sign < 256; sign++) {
            boolean blank = sign == 10 || sign == 32;
            boolean digit = sign >= '0' && sign <= '9';
            if (sign >= 'a' && sign <= 'z') {
                // One more letter makes another word, at whose first sign the fault is.
                fault("own" + (char) sign + " 5;", 1, 0);
                fault("rate " + (char) sign + "hay 5;", 1, 5);
                fault("none hay" + (char) sign + ";", 1, 5);
            } else if (!blank && !digit) {
                fault("own" + (char) sign + " 5;", 1, 3);
                fault("none hay" + (char) sign + " hay;", 1, sign == ';' ? 10 : 8);
            }
        }
        fault("ow n 5;", 1, 0);
        fault("nonehay;", 1, 0);
        fault("none ha", 1, 5);
        fault("none", 1, 4);
        fault("Own 5;", 1, 0);
        fault("own 5; Own 6;", 1, 7);
        for (int kind = 0; kind < 4; kind++) {
            taken("none " + CLASSES[kind] + ";", 8 + kind, 0);
            fault("none " + CLASSES[kind].substring(1) + ";", 1, 5);
            fault("none " + CLASSES[kind].substring(0, CLASSES[kind].length() - 1) + ";", 1, 5);
        }
    }

    /** Each letter of each word matters: another one there, and the word is none, at its first sign. */
    private static void wordsLetterByLetter() {
        String[] lines = {
            "rate house 5;", "rate barn 5;", "rate beasts 5;", "rate hay 5;", "none hay;", "season hay:" + TWELVE + ";",
            "duty 5 less 5;", "own 5;", "reserve 5;", "other 1 5;"
        };
        for (String line : lines) {
            int start = 0;
            for (int i = 0; i < line.length(); i++) {
                char sign = line.charAt(i);
                if (sign < 'a' || sign > 'z') {
                    start = i + 1;
                    continue;
                }
                for (char other : new char[] {sign == 'z' ? 'a' : (char) (sign + 1), (char) (sign - 32), (char) (sign + 128)}) {
                    fault(line.substring(0, i) + other + line.substring(i + 1), 1, start);
                }
            }
        }
    }

    /** The signs beside 0 and 9 are no digits, those beside a and z no letters. */
    private static void digitsAreTen() {
        for (char digit = '0'; digit <= '9'; digit++) {
            taken("reserve 1" + digit + ";", 15, 10 + digit - '0');
            fault("" + digit + "own 5;", 1, 0);
            fault("ow" + digit + " 5;", 1, 0);
        }
        fault("reserve 1/;", 1, 9);
        fault("reserve 1:;", 1, 9);
        fault("`own 1;", 1, 0);
        fault("own{ 1;", 1, 3);
        fault("own 1\u00b1;", 1, 5);
        fault("own \u00b1;", 1, 4);
        fault("\u00e1wn 1;", 1, 0);
    }

    /** ';', ':' and ',' stand where the grammar has them, and nowhere else. */
    private static void marksAreThree() {
        taken("season hay:" + TWELVE + ";", 7, 1);
        taken(" season\nhay : " + TWELVE.replace(",", " ,\n") + " ;", 7, 1);
        fault("season hay;" + TWELVE + ";", 1, 10);
        fault("season hay," + TWELVE + ";", 1, 10);
        fault("season hay " + TWELVE + ";", 1, 11);
        fault("season hay::" + TWELVE + ";", 1, 11);
        fault("season hay:,1;", 1, 11);
        fault("season hay:1,,2;", 1, 13);
        fault("season hay:1:2;", 1, 12);
        fault("season:" + TWELVE + ";", 1, 6);
        fault("own:5;", 1, 3);
        fault("own 5,", 1, 5);
        fault("own 5:", 1, 5);
        fault(",", 1, 0);
        fault(":", 1, 0);
        fault("other 1,5;", 1, 7);
        fault("duty 5,less 5;", 1, 6);
        // 59, 58 and 44 are the marks' own numbers: a number that is one is no mark, nor is what follows it.
        fault("own 5 59", 1, 6);
        fault("own 59", 1, 6);
        fault("own 59 own 6;", 1, 7);
        fault("season hay 58 " + TWELVE + ";", 1, 11);
        fault("season hay:44 44 1;", 1, 14);
        fault("season hay:44 x 1;", 1, 14);
    }

    /** "season: 12 numbers"; "a thirteenth of a season" (at it). */
    private static void twelveNumbersOfASeason() {
        for (int many = 1; many < 12; many++) {
            String text = "season barn:" + "5,".repeat(many - 1) + "5";
            fault(text + ";", 1, text.length());
            fault(text, 1, text.length());
            fault(text + " \n", 1, text.length() + 2);
        }
        String twelve = "season barn:" + "5,".repeat(11) + "5";
        taken(twelve + ";", 5, 5);
        fault(twelve, 1, 35);
        fault(twelve + ",6;", 2, 36);
        fault(twelve + ",  6;", 2, 38);
        fault(twelve + ",1001;", 2, 36);
        fault(twelve + ",0", 2, 36);
        fault(twelve + ",6,7;", 2, 36);
        fault(twelve + ",;", 1, 36);
        fault(twelve + ",", 1, 36);
        fault(twelve + ", x", 1, 37);
        fault(twelve + " 6;", 1, 36);
        fault("season barn:;", 1, 12);
        fault("season barn:", 1, 12);
    }

    /** "1 a TOKEN that is none or can't stand there (the length, if more must come)". */
    private static void faultsAtTheEnds() {
        fault("x", 1, 0);
        fault("\u0000", 1, 0);
        fault("\u00ff", 1, 0);
        fault("o", 1, 0);
        String[] whole = {
            "rate hay 5", "season hay : " + TWELVE, "duty 5 less 5", "none hay", "own 5", "reserve 5", "other 1 5"
        };
        for (String line : whole) {
            taken(line + ";", 9, 1);
            fault(line, 1, line.length());
            fault(line + " \n ", 1, line.length() + 3);
            fault(line + "; own", 1, line.length() + 5);
            // Where a token ends, all that stands behind it must still come.
            for (int i = 1; i < line.length(); i++) {
                if (line.charAt(i) == ' ') {
                    fault(line.substring(0, i), 1, i);
                    fault(line.substring(0, i + 1), 1, i + 1);
                }
            }
        }
    }

    /** Where a CLASS must come, nothing else can stand, though all behind it be sound. */
    private static void linesWithoutAClass() {
        fault("rate 5;", 1, 5);
        fault("rate ;", 1, 5);
        fault("rate rate 5;", 1, 5);
        fault("none;", 1, 4);
        fault("none 5;", 1, 5);
        fault("none none;", 1, 5);
        fault("season : " + TWELVE + ";", 1, 7);
        fault("season 5: " + TWELVE + ";", 1, 7);
    }

    /** "FAULTS, the first along the text". */
    private static void theFirstFaultAlongTheText() {
        fault("own 101; x", 2, 4);
        fault("x 101;", 1, 0);
        fault("own x 101", 1, 4);
        fault("own 1; own 2; own 101;", 3, 7);
        fault("own 1; own 101; own 2;", 2, 11);
        fault("reserve 1001", 2, 8);
        fault("duty 1001 less 101;", 2, 5);
        fault("duty 1001 more", 2, 5);
        fault("duty 5 more 101;", 1, 7);
        fault("duty 5 less 101", 2, 12);
        fault("rate pig 1001;", 1, 5);
        fault("rate hay 1001", 2, 9);
        fault("season pig: 1001;", 1, 7);
        fault("season hay: 1,1001,x", 2, 14);
        fault("own 5; rate hay 1001; none pig;", 2, 16);
        numbersWhereNoneCanStand();
    }

    /** "an N above 1000": digits where no N can stand are none, however high. */
    private static void numbersWhereNoneCanStand() {
        fault("1001;", 1, 0);
        fault("rate 1001 5;", 1, 5);
        fault("season 1001: " + TWELVE + ";", 1, 7);
        fault("season hay 1001;", 1, 11);
        fault("duty 5 1001;", 1, 7);
        fault("none hay 1001;", 1, 9);
        fault("own 5 1001;", 1, 6);
        fault("own 5; 1001", 1, 7);
        fault("other 1 5 1001;", 1, 10);
        fault("season hay: " + TWELVE + " 1001;", 1, 13 + TWELVE.length());
    }

    /** "3 a LINE of a KEY that the text has (at its first TOKEN, behind what is wrong within it)". */
    private static void faultsWithinALineComeFirst() {
        fault("own 1; own 101;", 2, 11);
        fault("own 1; own hay;", 1, 11);
        fault("own 1; own", 1, 10);
        fault("own 1; own ;", 1, 11);
        fault("reserve 1; reserve 1001;", 2, 19);
        fault("duty 1 less 1; duty 1001 less 1;", 2, 20);
        fault("duty 1 less 1; duty 1 more 1;", 1, 22);
        fault("duty 1 less 1; duty 1 less 101;", 2, 27);
        fault("rate hay 1; rate hay x;", 1, 21);
        fault("rate hay 1; rate hay 1001;", 2, 21);
        fault("none hay; none", 1, 14);
        fault("other 1 1; other 1;", 1, 18);
        fault("other 1 1; other 1 1001;", 2, 19);
        fault("other 1 1; other 3 1;", 2, 17);
        String season = "season hay:" + TWELVE + ";";
        fault(season + "season hay:1;", 1, 50);
        fault(season + "season hay:1001", 2, 49);
        fault(season + "season hay:" + TWELVE + ",1;", 2, 76);
        fault(season + "season hay 1", 1, 49);
        // The ';' is not within the line.
        fault("own 1; own 2", 3, 7);
        fault("own 1; own 2,", 3, 7);
        fault("none hay; none hay 5;", 3, 10);
        fault(season + "season hay:" + TWELVE, 3, 38);
    }

    /** "KEYS: rate, season by CLASS; none by CLASS; duty; own; reserve; other by its first number." */
    private static void keysStandOnce() {
        String[] lines = {"duty 1 less 1;", "own 1;", "reserve 1;", "other 0 1;", "other 1 1;", "other 2 1;"};
        for (String line : lines) {
            fault(line + line, 3, line.length());
            fault(line + " \n" + line, 3, line.length() + 2);
            fault(line + "rate barn 5;" + line, 3, line.length() + 12);
        }
        for (String kind : CLASSES) {
            for (String line : new String[] {"rate " + kind + " 0;", "none " + kind + ";", "season " + kind + ":" + TWELVE + ";"}) {
                fault(line + line, 3, line.length());
                fault(line + "own 5;" + line, 3, line.length() + 6);
            }
        }
        fault("own 0;own 0;", 3, 6);
        fault("reserve 0; reserve 0;", 3, 11);
        fault("duty 0 less 0; duty 0 less 0;", 3, 15);
        fault("other 0 0; other 00 0;", 3, 11);
        fault("own 5; own 5; own 5;", 3, 7);
    }

    /** All keys stand beside one another in one text. */
    private static void keysThatAreNotAlike() {
        StringBuilder all = new StringBuilder("duty 1 less 2;own 3;reserve 4;other 0 5;other 1 6;other 2 7;");
        for (String kind : CLASSES) {
            all.append("rate ").append(kind).append(" 8;none ").append(kind).append(";season ").append(kind).append(":" + TWELVE + ";");
        }
        Mutual x = new Mutual();
        CHECK.due("all keys", Check.vote(x, all.toString(), 0), 0);
        CHECK.due("count(5)", x.count(5), 18);
        int[] due = {8, 8, 8, 8, 1, 1, 1, 1, 0, 0, 0, 0, 1, 2, 3, 4, 5, 6, 7};
        for (int what = 0; what <= 18; what++) {
            CHECK.due("law(" + what + ")", x.law(what, 0, 0), due[what]);
        }
        fault(all + "other 1 6;", 3, all.length());
        fault(all + "rate hay 8;", 3, all.length());
    }

    /** A KEY stands once in a text; other texts may have it too. */
    private static void keysOfAnotherText() {
        Mutual x = new Mutual();
        CHECK.due("text 0", Check.vote(x, "own 1; none hay;", 0), 0);
        CHECK.due("text 1", Check.vote(x, "own 2; none hay;", 0), 1);
        CHECK.due("no fault", x.fault(0), 0);
        CHECK.due("own", x.law(14, 0, 0), 2);
        CHECK.due("count(5)", x.count(5), 4);
    }

    /** A text at fault leaves neither lines nor keys, and its tape is empty. */
    private static void faultyTextsLeaveNothing() {
        Mutual x = new Mutual();
        CHECK.due("at fault in its last line", Check.vote(x, "own 5; none hay; reserve 6; own 7;", 0), NONE);
        CHECK.due("own", x.law(14, 0, 0), 0);
        CHECK.due("hay", x.law(11, 0, 0), 1);
        CHECK.due("reserve", x.law(15, 0, 0), 0);
        CHECK.due("count(2)", x.count(2), 0);
        CHECK.due("count(5)", x.count(5), 0);
        CHECK.due("undo(0)", x.undo(0), false);
        CHECK.due("the next begins anew", Check.vote(x, "own 8;", 0), 0);
        CHECK.due("own", x.law(14, 0, 0), 8);
        CHECK.due("reserve", x.law(15, 0, 0), 0);
        CHECK.due("count(5)", x.count(5), 1);
    }

    /** "of a KEY's LINES in force that with the latest FROM counts", whenever it was voted. */
    private static void theLatestFromCounts() {
        Mutual x = new Mutual();
        Check.vote(x, "own 1;", 10);
        Check.vote(x, "own 2;", 11);
        Check.vote(x, "own 3;", 9);
        x.pass(1);
        Check.vote(x, "own 4; reserve 4;", 0);
        int[] days = {0, 8, 9, 10, 11, 12, 719};
        int[] due = {4, 4, 3, 1, 2, 2, 2};
        for (int i = 0; i < days.length; i++) {
            CHECK.due("on " + days[i], x.law(14, days[i], 1), due[i]);
            CHECK.due("reserve on " + days[i], x.law(15, days[i], 1), 4);
        }
        CHECK.due("on 0, as known ahead", x.law(14, 0, 0), 0);
        x.undo(1);
        CHECK.due("on 11 without the latest", x.law(14, 11, 1), 1);
        CHECK.due("on 11, as known ahead", x.law(14, 11, 0), 2);
    }

    /** "of several that of the TEXT voted latest". */
    private static void ofLikeFromsTheOneVotedLatest() {
        Mutual x = new Mutual();
        Check.vote(x, "own 5;", 10);
        Check.vote(x, "own 0;", 10);
        CHECK.due("0 in place of 5", x.law(14, 10, 0), 0);
        Check.vote(x, "own 3;", 10);
        CHECK.due("3 in place of 0", x.law(14, 10, 0), 3);
        x.pass(2);
        Check.vote(x, "own 2; season hay:" + TWELVE + ";", 10);
        CHECK.due("as known one day ahead", x.law(14, 10, 1), 3);
        CHECK.due("as known today", x.law(14, 10, 2), 2);
        Check.vote(x, "season hay:0" + ",0".repeat(11) + ";", 10);
        CHECK.due("a season of noughts in its place", x.law(7, 40, 2), 0);
        x.undo(4);
        CHECK.due("and undone", x.law(7, 40, 2), 2);
        x.undo(3);
        CHECK.due("the one ahead of it", x.law(14, 10, 2), 3);
        x.undo(1);
        CHECK.due("one that does not count is undone", x.law(14, 10, 2), 3);
        x.undo(2);
        CHECK.due("the first", x.law(14, 10, 2), 5);
    }

    /** "Without any: rate 1, season 100 each, duty 0 less 0, own 0, reserve 0, other N 0." */
    private static void withoutAnyLine() {
        int[] due = {1, 1, 1, 1, 100, 100, 100, 100, 1, 1, 1, 1, 0, 0, 0, 0, 0, 0, 0};
        Mutual x = new Mutual();
        for (int what = 0; what <= 18; what++) {
            CHECK.due("law(" + what + ") of a new one", x.law(what, 0, 0), due[what]);
        }
        Check.vote(x, "rate house 5; season house:" + TWELVE + "; none house; duty 5 less 6; own 7; reserve 8; other 0 9;", 10);
        int[] then = {5, 1, 1, 1, 1, 100, 100, 100, 0, 1, 1, 1, 5, 6, 7, 8, 9, 0, 0};
        for (int what = 0; what <= 18; what++) {
            CHECK.due("law(" + what + ") ahead of it", x.law(what, 9, 0), due[what]);
            CHECK.due("law(" + what + ") from it on", x.law(what, 10, 0), then[what]);
        }
        x.undo(0);
        for (int what = 0; what <= 18; what++) {
            CHECK.due("law(" + what + ") undone", x.law(what, 10, 0), due[what]);
        }
    }

    /** "a CLASS for which one is in force is not paid, whatever comes later: it has no end but being undone." */
    private static void noneHasNoEnd() {
        Mutual x = new Mutual();
        Check.vote(x, "none hay;", 10);
        Check.vote(x, "none hay;", 20);
        Check.vote(x, "rate hay 5; none barn;", 30);
        CHECK.due("on 9", x.law(11, 9, 0), 1);
        CHECK.due("on 10", x.law(11, 10, 0), 0);
        CHECK.due("on 719", x.law(11, 719, 0), 0);
        x.pass(1);
        x.undo(1);
        CHECK.due("the later one undone: on 719", x.law(11, 719, 1), 0);
        x.undo(0);
        CHECK.due("both undone: on 719", x.law(11, 719, 1), 1);
        CHECK.due("as known ahead", x.law(11, 719, 0), 0);
        CHECK.due("the other class", x.law(9, 30, 1), 0);
        Mutual y = new Mutual();
        Check.vote(y, "none hay;", 10);
        Check.vote(y, "none hay;", 20);
        y.undo(0);
        CHECK.due("the earlier one undone: on 19", y.law(11, 19, 0), 1);
        CHECK.due("the earlier one undone: on 20", y.law(11, 20, 0), 0);
    }
}
