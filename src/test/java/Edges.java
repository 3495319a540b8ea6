import java.util.List;

/** Holds a call at its edges: what is taken is as in the model, what is refused leaves no trace. */
final class Edges {
    interface Of {
        long on(Face x, int v);
    }

    private final Check check;

    Edges(Check check) {
        this.check = check;
    }

    /** From first to last it is taken; the ones beside them, and the ends of all ints, are refused. */
    void range(String what, Scenes.Scene scene, int first, int last, long refusal, Of call) {
        for (int v : new int[] {first, last}) {
            taken(what + " " + v, scene, refusal, x -> call.on(x, v));
        }
        for (int v : new int[] {first - 1, last + 1, Integer.MIN_VALUE, Integer.MAX_VALUE}) {
            refused(what + " " + v, scene, refusal, x -> call.on(x, v));
        }
    }

    /** The call is not answered by the refusal, and what can be seen behind it is what the model shows. */
    void taken(String what, Scenes.Scene scene, long refusal, Trace.Step call) {
        Mutual x = new Mutual();
        Model model = new Model();
        scene.play(x);
        scene.play(model);
        long answer = Check.ask(() -> call.on(x));
        check.due(what + ", refused", answer == refusal, false);
        check.due(what, answer, Check.ask(() -> call.on(model)));
        same(what, Trace.of(false, scene, call), Trace.of(true, scene, call));
    }

    /** The call is answered by the refusal, and nothing else can be seen behind it than without it. */
    void refused(String what, Scenes.Scene scene, long refusal, Trace.Step call) {
        Mutual x = new Mutual();
        scene.play(x);
        check.due(what, Check.ask(() -> call.on(x)), refusal);
        same(what, Trace.of(false, scene, call), Trace.of(false, scene, y -> 0));
    }

    /** A question: its answer is the one due, and asking leaves no trace. */
    void asked(String what, Scenes.Scene scene, long due, Trace.Step call) {
        refused(what, scene, due, call);
    }

    private void same(String what, Trace.Seen got, Trace.Seen want) {
        List<String> questions = want.questions();
        check.due(what + ", questions behind it", got.questions().size(), questions.size());
        for (int i = 0; i < questions.size() && i < got.answers().size(); i++) {
            check.due(what + ", then " + questions.get(i), got.answers().get(i), want.answers().get(i));
        }
    }
}
