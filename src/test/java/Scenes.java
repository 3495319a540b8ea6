/** Runs of calls that bring an object into a state, to stand at an edge from there. */
final class Scenes {
    interface Scene {
        void play(Face x);
    }

    static final Scene EMPTY = x -> { };

    /** On day 5: five farms, three texts (one undone), a closed fire that is booked, an open one, a fault, a tape of 20. */
    static final Scene LIVELY = x -> {
        firstDay(x);
        thirdDay(x);
        x.pass(2);
        x.note(2, 1, 0, 900);
        Check.vote(x, "reserve 999;", 0);
        x.undo(2);
        Check.vote(x, "own 101;", 0);
        Check.feed(x, "own 5; rate barn 2; ");
    };

    static final int LIVELY_TODAY = 5;
    static final int LIVELY_FARMS = 5;
    static final int LIVELY_FIRES = 2;
    static final int LIVELY_TAPE = 20;

    /** One farm less than there may be. */
    static final Scene ELEVEN_FARMS = x -> {
        LIVELY.play(x);
        while (x.count(1) < 11) {
            x.farm(4);
        }
    };

    static final Scene TWELVE_FARMS = x -> {
        ELEVEN_FARMS.play(x);
        x.farm(9);
    };

    /** One note less than there may be. */
    static final Scene NOTES_199 = x -> {
        LIVELY.play(x);
        int many = x.count(3);
        for (int i = many; i < 199; i++) {
            x.note(i % LIVELY_FARMS, i % 9, i, i % 100);
        }
    };

    static final Scene NOTES_200 = x -> {
        NOTES_199.play(x);
        x.note(4, 8, 719, 99);
    };

    /** One text less than there may be; the tape of LIVELY stands on it again. */
    static final Scene NINE_TEXTS = x -> {
        LIVELY.play(x);
        for (int i = 3; i < 9; i++) {
            x.vote(0, i);
        }
        Check.feed(x, "own 5; rate barn 2; ");
    };

    static final Scene TEN_TEXTS = x -> {
        NINE_TEXTS.play(x);
        x.vote(20, 719);
        Check.feed(x, "own 5; rate barn 2; ");
    };

    /** One fire less than there may be. */
    static final Scene ELEVEN_FIRES = x -> {
        LIVELY.play(x);
        for (int i = 2; i < 11; i++) {
            x.fire(i % LIVELY_FARMS, i);
        }
    };

    static final Scene TWELVE_FIRES = x -> {
        ELEVEN_FIRES.play(x);
        x.fire(4, -1);
    };

    /** Room for just twenty bytes more; what stands on the tape is a sound text. */
    static final Scene TAPE_980 = x -> {
        LIVELY.play(x);
        for (int i = 1; i < 48; i++) {
            Check.feed(x, "                    ");
        }
        Check.feed(x, "         none hay;  ");
    };

    static final Scene TAPE_1000 = x -> {
        TAPE_980.play(x);
        Check.feed(x, "        reserve 321;");
    };

    static final Scene LAST_DAY = x -> {
        LIVELY.play(x);
        x.pass(714);
    };

    private Scenes() {
    }

    static Mutual withKins(int... kins) {
        Mutual x = new Mutual();
        for (int kin : kins) {
            x.farm(kin);
        }
        return x;
    }

    /** The house of farm 0 burns, and farm 1, of another kin, judges. */
    static Mutual burning(int worth, int elsewhere, int lost) {
        Mutual x = withKins(0, 1);
        x.note(0, 0, 0, worth);
        x.note(0, 4, 0, elsewhere);
        x.fire(0, 0);
        x.say(0, 0, 0, lost);
        return x;
    }

    private static void firstDay(Face x) {
        x.farm(0);
        x.farm(1);
        x.farm(2);
        x.note(0, 0, 0, 1000);
        x.note(0, 4, 0, 250);
        x.note(0, 8, 0, 3);
        x.note(0, 3, 2, 400);
        x.note(1, 0, 0, 2000);
        x.note(2, 1, 0, 700);
        Check.vote(x, "rate hay 3; own 10; reserve 40; other 1 30; duty 4 less 5;", 0);
        Check.vote(x, "none beasts; other 0 7; season house:90,1,1,1,1,1,1,1,1,1,1,1;", 2);
        x.fire(0, 7);
        for (int kind = 0; kind < 4; kind++) {
            x.say(0, 0, kind, 90);
            x.say(0, 1, kind, 60 + kind);
        }
    }

    private static void thirdDay(Face x) {
        x.pass(3);
        x.farm(0);
        x.farm(9);
        x.note(4, 3, 3, 500);
        x.note(0, 0, 0, 1100);
        x.note(1, 2, 0, 300);
        x.fire(1, -5);
        x.say(1, 0, 0, 10);
        x.say(1, 1, 0, 20);
        x.say(1, 2, 2, 50);
        x.close(0);
        x.book();
    }
}
