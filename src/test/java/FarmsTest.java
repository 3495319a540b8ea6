/** Promises 6 to 9: pass, farm, note, worth. */
public final class FarmsTest {
    private static final Check CHECK = new Check();

    public static void main(String[] args) {
        passing();
        farmsCome();
        notesAreBounded();
        notesUpToTwoHundred();
        worthOfEachKind();
        worthByDay();
        worthAsKnown();
        worthRefused();
        CHECK.end();
    }

    private static void passing() {
        Mutual x = new Mutual();
        CHECK.due("pass(0)", x.pass(0), 0);
        CHECK.due("pass(-1)", x.pass(-1), -1);
        CHECK.due("pass(720)", x.pass(720), -1);
        CHECK.due("pass(721)", x.pass(721), -1);
        CHECK.due("pass(MAX)", x.pass(Integer.MAX_VALUE), -1);
        CHECK.due("pass(MIN)", x.pass(Integer.MIN_VALUE), -1);
        CHECK.due("count(0)", x.count(0), 0);
        CHECK.due("pass(700)", x.pass(700), 700);
        CHECK.due("pass(20)", x.pass(20), -1);
        CHECK.due("pass(19)", x.pass(19), 719);
        CHECK.due("pass(0)", x.pass(0), 719);
        CHECK.due("pass(1)", x.pass(1), -1);
        CHECK.due("count(0)", x.count(0), 719);
        Mutual y = new Mutual();
        CHECK.due("pass(719)", y.pass(719), 719);
    }

    private static void farmsCome() {
        Mutual x = new Mutual();
        CHECK.due("farm(-1)", x.farm(-1), -1);
        CHECK.due("farm(10)", x.farm(10), -1);
        for (int i = 0; i < 12; i++) {
            CHECK.due("farm " + i, x.farm(i % 2 == 0 ? 9 : 0), i);
        }
        CHECK.due("a thirteenth", x.farm(0), -1);
        CHECK.due("count(1)", x.count(1), 12);
    }

    private static void notesAreBounded() {
        Mutual x = new Mutual();
        CHECK.due("no farm", x.note(0, 0, 0, 0), -1);
        x.farm(0);
        CHECK.due("farm 1", x.note(1, 0, 0, 0), -1);
        CHECK.due("farm -1", x.note(-1, 0, 0, 0), -1);
        CHECK.due("what -1", x.note(0, -1, 0, 0), -1);
        CHECK.due("what 9", x.note(0, 9, 0, 0), -1);
        CHECK.due("day -1", x.note(0, 0, -1, 0), -1);
        CHECK.due("day 720", x.note(0, 0, 720, 0), -1);
        CHECK.due("worth -1", x.note(0, 0, 0, -1), -1);
        CHECK.due("worth 10001", x.note(0, 3, 0, 10001), -1);
        CHECK.due("elsewhere 10001", x.note(0, 7, 0, 10001), -1);
        CHECK.due("buckets 100", x.note(0, 8, 0, 100), -1);
        CHECK.due("buckets -1", x.note(0, 8, 0, -1), -1);
        CHECK.due("count(3)", x.count(3), 0);
        CHECK.due("worth 10000", x.note(0, 3, 719, 10000), 1);
        CHECK.due("elsewhere 10000", x.note(0, 7, 0, 10000), 2);
        CHECK.due("buckets 99", x.note(0, 8, 0, 99), 3);
        CHECK.due("worth 0", x.note(0, 0, 0, 0), 4);
        CHECK.due("count(3)", x.count(3), 4);
    }

    private static void notesUpToTwoHundred() {
        Mutual x = new Mutual();
        x.farm(0);
        x.farm(0);
        for (int i = 1; i <= 200; i++) {
            CHECK.due("note " + i, x.note(i % 2, i % 9, 0, i % 100), i);
        }
        CHECK.due("a 201st", x.note(0, 0, 0, 5), -1);
        CHECK.due("count(3)", x.count(3), 200);
    }

    private static void worthOfEachKind() {
        Mutual x = new Mutual();
        x.farm(0);
        x.farm(0);
        for (int what = 0; what < 9; what++) {
            CHECK.due("at first " + what, x.worth(1, what, 0, 0), 0);
            x.note(1, what, 0, 50 + what);
        }
        for (int what = 0; what < 9; what++) {
            CHECK.due("worth " + what, x.worth(1, what, 0, 0), 50 + what);
            CHECK.due("of the other farm " + what, x.worth(0, what, 0, 0), 0);
        }
    }

    private static void worthByDay() {
        Mutual x = new Mutual();
        x.farm(0);
        x.note(0, 0, 100, 1);
        x.note(0, 0, 50, 2);
        x.note(0, 0, 100, 3);
        x.note(0, 0, 50, 4);
        CHECK.due("on 49", x.worth(0, 0, 49, 0), 0);
        CHECK.due("on 50", x.worth(0, 0, 50, 0), 4);
        CHECK.due("on 99", x.worth(0, 0, 99, 0), 4);
        CHECK.due("on 100", x.worth(0, 0, 100, 0), 3);
        CHECK.due("on 719", x.worth(0, 0, 719, 0), 3);
        x.note(0, 0, 100, 0);
        CHECK.due("told back to 0", x.worth(0, 0, 719, 0), 0);
    }

    private static void worthAsKnown() {
        Mutual x = new Mutual();
        x.farm(0);
        x.pass(10);
        x.note(0, 0, 0, 1);
        x.pass(10);
        x.note(0, 0, 5, 2);
        x.pass(10);
        x.note(0, 0, 0, 3);
        CHECK.due("known on 9", x.worth(0, 0, 8, 9), 0);
        CHECK.due("known on 10", x.worth(0, 0, 8, 10), 1);
        CHECK.due("known on 20", x.worth(0, 0, 8, 20), 2);
        CHECK.due("known on 20, day 4", x.worth(0, 0, 4, 20), 1);
        CHECK.due("known on 30", x.worth(0, 0, 8, 30), 2);
        CHECK.due("known on 30, day 4", x.worth(0, 0, 4, 30), 3);
        CHECK.due("known on 29, day 4", x.worth(0, 0, 4, 29), 1);
    }

    private static void worthRefused() {
        Mutual x = new Mutual();
        CHECK.due("no farm", x.worth(0, 0, 0, 0), -1);
        x.farm(0);
        CHECK.due("farm 1", x.worth(1, 0, 0, 0), -1);
        CHECK.due("farm -1", x.worth(-1, 0, 0, 0), -1);
        CHECK.due("what -1", x.worth(0, -1, 0, 0), -1);
        CHECK.due("what 9", x.worth(0, 9, 0, 0), -1);
        CHECK.due("day -1", x.worth(0, 0, -1, 0), -1);
        CHECK.due("day 720", x.worth(0, 0, 720, 0), -1);
        CHECK.due("known -1", x.worth(0, 0, 0, -1), -1);
        CHECK.due("known 1", x.worth(0, 0, 0, 1), -1);
        CHECK.due("day 719", x.worth(0, 0, 719, 0), 0);
    }
}
