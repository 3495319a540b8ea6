/** The document's face, so that one run of calls can be asked of the class and of the model. */
interface Face {
    int feed(int a, int b, int c, int d, int e);

    int vote(int n, int from);

    int fault(int what);

    boolean undo(int text);

    int pass(int days);

    int farm(int kin);

    int note(int farm, int what, int from, int v);

    int worth(int farm, int what, int day, int known);

    int law(int what, int day, int known);

    int fire(int farm, int seed);

    int judge(int fire, int k);

    boolean say(int fire, int k, int kind, int hundredths);

    boolean close(int fire);

    int look(int fire, int what);

    long award(int fire, int known, int what);

    long call(int fire, int farm, int known);

    int book();

    long booked(int k, int what);

    long account(int farm);

    int count(int what);

    /** How many calls more the document promises anything about. */
    int left();
}
