import java.util.ArrayList;
import java.util.List;

/** What can be seen of an object's state: answers to questions, and then to calls that go on from it. */
final class Trace {
    interface Step {
        long on(Face x);
    }

    private record Asked(String what, Step step) { }

    /** Answers with the questions they answer. */
    record Seen(List<String> questions, List<Long> answers) { }

    private final List<Asked> questions = new ArrayList<>();
    private final int today;
    private final int farms;
    private final int fires;

    /** The questions that suit an object of which x is one. */
    private Trace(Face x) {
        today = x.count(0);
        farms = x.count(1);
        fires = x.count(4);
        askCounts();
        askFarms();
        askLaws(questions, today);
        askFires();
        askBookings();
    }

    /** Plays a scene and a call on fresh objects, as often as their calls suffice for all that can be asked. */
    static Seen of(boolean model, Scenes.Scene scene, Step call) {
        Model like = new Model();
        scene.play(like);
        Check.ask(() -> call.on(like));
        Trace trace = new Trace(like);
        Seen seen = new Seen(new ArrayList<>(), new ArrayList<>());
        trace.put(trace.questions, fresh(model, scene, call), () -> fresh(model, scene, call), seen);
        for (List<Asked> on : List.of(trace.tapeGoesOn(), trace.bookGoesOn(), trace.allGoesOn())) {
            trace.put(on, fresh(model, scene, call), null, seen);
        }
        return seen;
    }

    private interface Fresh {
        Face made();
    }

    private static Face fresh(boolean model, Scenes.Scene scene, Step call) {
        Face x = model ? new Model() : new Mutual();
        scene.play(x);
        Check.ask(() -> call.on(x));
        return x;
    }

    private void put(List<Asked> row, Face first, Fresh next, Seen seen) {
        Face x = first;
        for (Asked asked : row) {
            // A question may take two calls.
            if (x.left() < 2 && next != null) {
                x = next.made();
            }
            Face now = x;
            seen.questions.add(asked.what);
            seen.answers.add(Check.ask(() -> asked.step.on(now)));
        }
    }

    private static void ask(List<Asked> row, String what, Step step) {
        row.add(new Asked(what, step));
    }

    private void askCounts() {
        for (int i = 0; i <= 6; i++) {
            int what = i;
            ask(questions, "count(" + what + ")", x -> x.count(what));
        }
        ask(questions, "fault(0)", x -> x.fault(0));
        ask(questions, "fault(1)", x -> x.fault(1));
    }

    private void askFarms() {
        int[] days = {0, today, 719};
        for (int i = 0; i < farms; i++) {
            int farm = i;
            ask(questions, "account(" + farm + ")", x -> x.account(farm));
            for (int j = 0; j <= 8; j++) {
                int what = j;
                for (int day : days) {
                    ask(questions, "worth(" + farm + ", " + what + ", " + day + ", today)", x -> x.worth(farm, what, day, today));
                }
                ask(questions, "worth(" + farm + ", " + what + ", today, 0)", x -> x.worth(farm, what, today, 0));
            }
        }
    }

    private static void askLaws(List<Asked> row, int today) {
        for (int i = 0; i <= 18; i++) {
            int what = i;
            for (int day : new int[] {0, today, 719}) {
                ask(row, "law(" + what + ", " + day + ", today)", x -> x.law(what, day, today));
            }
            ask(row, "law(" + what + ", 719, 0)", x -> x.law(what, 719, 0));
        }
    }

    private void askFires() {
        for (int i = 0; i < fires; i++) {
            int fire = i;
            for (int j = 0; j <= 7; j++) {
                int what = j;
                ask(questions, "look(" + fire + ", " + what + ")", x -> x.look(fire, what));
            }
            for (int j = 0; j < 3; j++) {
                int k = j;
                ask(questions, "judge(" + fire + ", " + k + ")", x -> x.judge(fire, k));
            }
            for (int j = 0; j <= 5; j++) {
                int what = j;
                ask(questions, "award(" + fire + ", its day, " + what + ")", x -> x.award(fire, x.look(fire, 1), what));
                ask(questions, "award(" + fire + ", today, " + what + ")", x -> x.award(fire, today, what));
            }
            for (int j = 0; j < farms; j++) {
                int farm = j;
                ask(questions, "call(" + fire + ", " + farm + ", today)", x -> x.call(fire, farm, today));
            }
        }
    }

    private void askBookings() {
        for (int i = 0; i < 15; i++) {
            int k = i;
            for (int j = 0; j < 3; j++) {
                int what = j;
                ask(questions, "booked(" + k + ", " + what + ")", x -> x.booked(k, what));
            }
        }
    }

    /** What stands on the tape is seen by a vote of it all. */
    private List<Asked> tapeGoesOn() {
        List<Asked> row = new ArrayList<>();
        int blanks = 0x20202020;
        ask(row, "feed behind it", x -> x.feed(blanks, blanks, blanks, blanks, blanks));
        ask(row, "vote of 1000 behind it", x -> x.vote(1000, 0));
        ask(row, "vote of 40 behind it", x -> x.vote(40, 0));
        ask(row, "vote of 20 behind it", x -> x.vote(20, 0));
        ask(row, "fault(0) behind a vote", x -> x.fault(0));
        ask(row, "fault(1) behind a vote", x -> x.fault(1));
        askLaws(row, today);
        return row;
    }

    private List<Asked> bookGoesOn() {
        List<Asked> row = new ArrayList<>();
        ask(row, "book() behind it", x -> x.book());
        for (int i = 0; i < farms; i++) {
            int farm = i;
            ask(row, "account(" + farm + ") behind book()", x -> x.account(farm));
        }
        for (int i = 0; i < fires; i++) {
            int fire = i;
            ask(row, "close(" + fire + ") behind it", x -> x.close(fire) ? 1 : 0);
        }
        ask(row, "book() behind closing", x -> x.book());
        ask(row, "count(6) behind booking", x -> x.count(6));
        return row;
    }

    private List<Asked> allGoesOn() {
        List<Asked> row = new ArrayList<>();
        ask(row, "farm() behind it", x -> x.farm(9));
        ask(row, "note() behind it", x -> x.note(farms, 3, 0, 77));
        ask(row, "worth() behind a note", x -> x.worth(farms, 3, 719, today));
        ask(row, "fire() behind it", x -> x.fire(farms, 77));
        for (int i = 0; i < 3; i++) {
            int k = i;
            ask(row, "judge() of it", x -> x.judge(fires, k));
            ask(row, "say() of it", x -> x.say(fires, k, 3, 100) ? 1 : 0);
        }
        ask(row, "award() of it", x -> x.award(fires, today, 0));
        for (int i = 0; i < 10; i++) {
            int text = i;
            ask(row, "undo(" + text + ") behind it", x -> x.undo(text) ? 1 : 0);
        }
        ask(row, "pass(714) behind it", x -> x.pass(714));
        ask(row, "pass(715) behind it", x -> x.pass(715));
        return row;
    }
}
