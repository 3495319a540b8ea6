/** The class itself, held to the 512 calls that the document promises: a test that makes more is wrong. */
final class Mutual implements Face {
    private static final int MOST_CALLS = 512;

    private final FireMutual inside = new FireMutual();
    private int calls;

    @Override
    public int feed(int a, int b, int c, int d, int e) {
        return counted().feed(a, b, c, d, e);
    }

    @Override
    public int vote(int n, int from) {
        return counted().vote(n, from);
    }

    @Override
    public int fault(int what) {
        return counted().fault(what);
    }

    @Override
    public boolean undo(int text) {
        return counted().undo(text);
    }

    @Override
    public int pass(int days) {
        return counted().pass(days);
    }

    @Override
    public int farm(int kin) {
        return counted().farm(kin);
    }

    @Override
    public int note(int farm, int what, int from, int v) {
        return counted().note(farm, what, from, v);
    }

    @Override
    public int worth(int farm, int what, int day, int known) {
        return counted().worth(farm, what, day, known);
    }

    @Override
    public int law(int what, int day, int known) {
        return counted().law(what, day, known);
    }

    @Override
    public int fire(int farm, int seed) {
        return counted().fire(farm, seed);
    }

    @Override
    public int judge(int fire, int k) {
        return counted().judge(fire, k);
    }

    @Override
    public boolean say(int fire, int k, int kind, int hundredths) {
        return counted().say(fire, k, kind, hundredths);
    }

    @Override
    public boolean close(int fire) {
        return counted().close(fire);
    }

    @Override
    public int look(int fire, int what) {
        return counted().look(fire, what);
    }

    @Override
    public long award(int fire, int known, int what) {
        return counted().award(fire, known, what);
    }

    @Override
    public long call(int fire, int farm, int known) {
        return counted().call(fire, farm, known);
    }

    @Override
    public int book() {
        return counted().book();
    }

    @Override
    public long booked(int k, int what) {
        return counted().booked(k, what);
    }

    @Override
    public long account(int farm) {
        return counted().account(farm);
    }

    @Override
    public int count(int what) {
        return counted().count(what);
    }

    @Override
    public int left() {
        return MOST_CALLS - calls;
    }

    private FireMutual counted() {
        calls++;
        if (calls > MOST_CALLS) {
            throw new AssertionError("the test asks an object for more than it promises");
        }
        return inside;
    }
}
