/** Every call with every mixture of arguments at the edges, in states at the edges: as the model answers, and no other throw. */
public final class SweepTest {
    private static final Check CHECK = new Check();
    private static final int[] MANY = {
        Integer.MIN_VALUE, -720, -1, 0, 1, 2, 3, 5, 8, 9, 11, 12, 18, 100, 719, 720, 1000, Integer.MAX_VALUE
    };
    private static final int[] FEW = {Integer.MIN_VALUE, -1, 0, 2, 5, 11, 12, 101, 720, Integer.MAX_VALUE};
    private static final Scenes.Scene[] SCENES = {
        Scenes.EMPTY, Scenes.LIVELY, Scenes.TWELVE_FARMS, Scenes.NOTES_200, Scenes.TEN_TEXTS, Scenes.TWELVE_FIRES,
        Scenes.TAPE_1000, Scenes.LAST_DAY
    };

    interface Call {
        long on(Face x, int[] a);
    }

    private final Scenes.Scene scene;
    private Mutual x;
    private Model model;

    private SweepTest(Scenes.Scene scene) {
        this.scene = scene;
    }

    public static void main(String[] args) {
        for (Scenes.Scene scene : SCENES) {
            new SweepTest(scene).all();
        }
        CHECK.end();
    }

    private void all() {
        sweep("feed", 5, (f, a) -> f.feed(a[0], a[1], a[2], a[3], a[4]));
        sweep("vote", 2, (f, a) -> f.vote(a[0], a[1]));
        sweep("fault", 1, (f, a) -> f.fault(a[0]));
        sweep("undo", 1, (f, a) -> f.undo(a[0]) ? 1 : 0);
        sweep("pass", 1, (f, a) -> f.pass(a[0]));
        sweep("farm", 1, (f, a) -> f.farm(a[0]));
        sweep("note", 4, (f, a) -> f.note(a[0], a[1], a[2], a[3]));
        sweep("worth", 4, (f, a) -> f.worth(a[0], a[1], a[2], a[3]));
        sweep("law", 3, (f, a) -> f.law(a[0], a[1], a[2]));
        sweep("fire", 2, (f, a) -> f.fire(a[0], a[1]));
        sweep("judge", 2, (f, a) -> f.judge(a[0], a[1]));
        sweep("say", 4, (f, a) -> f.say(a[0], a[1], a[2], a[3]) ? 1 : 0);
        sweep("close", 1, (f, a) -> f.close(a[0]) ? 1 : 0);
        sweep("look", 2, (f, a) -> f.look(a[0], a[1]));
        sweep("award", 3, (f, a) -> f.award(a[0], a[1], a[2]));
        sweep("call", 3, (f, a) -> f.call(a[0], a[1], a[2]));
        sweep("book", 0, (f, a) -> f.book());
        sweep("booked", 2, (f, a) -> f.booked(a[0], a[1]));
        sweep("account", 1, (f, a) -> f.account(a[0]));
        sweep("count", 1, (f, a) -> f.count(a[0]));
    }

    private void sweep(String name, int many, Call call) {
        int[] values = many == 5 ? new int[] {Integer.MIN_VALUE, 0, 0x6f776e20} : many == 4 ? FEW : MANY;
        int all = 1;
        for (int i = 0; i < many; i++) {
            all *= values.length;
        }
        begin();
        for (int number = 0; number < all; number++) {
            if (x.left() == 0) {
                begin();
            }
            int[] a = new int[many];
            int rest = number;
            for (int i = 0; i < many; i++) {
                a[i] = values[rest % values.length];
                rest /= values.length;
            }
            CHECK.dueCall(name + java.util.Arrays.toString(a), () -> call.on(x, a), Check.ask(() -> call.on(model, a)));
        }
    }

    private void begin() {
        x = new Mutual();
        model = new Model();
        scene.play(x);
        scene.play(model);
    }
}
