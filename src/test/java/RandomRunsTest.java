import java.util.Random;

/** Runs of at most 512 calls, by fixed seeds, each answer held against the model's. */
public final class RandomRunsTest {
    private static final int RUNS = 2000;
    private static final int MOST_CALLS_OF_A_STEP = 60;
    private static final Check CHECK = new Check();
    private static final String[] KINDS = {"house", "barn", "beasts", "hay"};
    private static final int[] WILD = {
        Integer.MIN_VALUE, Integer.MIN_VALUE + 1, -1000000, -20, -2, -1, 0, 1, 2, 3, 4, 5, 6, 7, 8, 9, 10, 11, 12, 13, 19,
        99, 100, 101, 144, 200, 719, 720, 721, 1000, 1001, 10000, 10001, 65536, 0x40000000, Integer.MAX_VALUE - 1, Integer.MAX_VALUE
    };

    private final Random random;
    private final Mutual x = new Mutual();
    private final Model model = new Model();
    private final boolean wild;
    private final int longest;

    private RandomRunsTest(int seed) {
        random = new Random(seed);
        wild = seed % 5 == 0;
        longest = seed % 3 == 0 ? 100 : 6;
    }

    public static void main(String[] args) {
        for (int seed = 0; seed < RUNS; seed++) {
            new RandomRunsTest(seed).run(seed);
        }
        CHECK.end();
    }

    private void run(int seed) {
        // A vote takes most calls: those that feed its text, and three more.
        for (int steps = 0; x.left() > MOST_CALLS_OF_A_STEP; steps++) {
            int which = random.nextInt(40);
            step("run " + seed + ", step " + steps, which);
        }
    }

    private int pick(int below) {
        if (wild && random.nextInt(4) == 0) {
            return WILD[random.nextInt(WILD.length)];
        }
        return random.nextInt(25) == 0 ? random.nextInt(3) - 1 + below : random.nextInt(Math.max(1, below));
    }

    private int known() {
        return random.nextInt(4) == 0 ? pick(720) : random.nextInt(3) == 0 ? pick(model.count(0) + 1) : model.count(0);
    }

    private int day() {
        return random.nextInt(3) == 0 ? pick(720) : pick(model.count(0) + 2);
    }

    private void step(String where, int which) {
        switch (which) {
            case 0, 1, 2 -> vote(where);
            case 3 -> {
                int a = random.nextInt();
                int b = random.nextInt();
                CHECK.due(where + " feed", x.feed(a, b, a, 0, b), model.feed(a, b, a, 0, b));
            }
            case 4 -> {
                int n = pick(1000);
                int from = pick(720);
                CHECK.due(where + " vote", x.vote(n, from), model.vote(n, from));
            }
            case 5 -> {
                int text = pick(10);
                CHECK.due(where + " undo", x.undo(text), model.undo(text));
            }
            case 6, 7 -> {
                int days = random.nextInt(40) == 0 ? pick(720) : pick(longest);
                CHECK.due(where + " pass", x.pass(days), model.pass(days));
            }
            case 8, 9 -> {
                int kin = pick(random.nextBoolean() ? 3 : 10);
                CHECK.due(where + " farm", x.farm(kin), model.farm(kin));
            }
            case 10, 11, 12, 13, 14, 15, 16, 17 -> note(where);
            case 18, 19 -> {
                int farm = pick(model.count(1));
                int seed = random.nextInt();
                CHECK.due(where + " fire", x.fire(farm, seed), model.fire(farm, seed));
            }
            case 20, 21, 22, 23, 24, 25 -> say(where);
            case 26 -> {
                int fire = pick(model.count(4));
                CHECK.due(where + " close", x.close(fire), model.close(fire));
            }
            case 27 -> CHECK.due(where + " book", x.book(), model.book());
            default -> question(where, which);
        }
    }

    private void vote(String where) {
        String text = text();
        for (int i = 0; i < text.length(); i += 20) {
            int[] w = new int[5];
            for (int j = 0; j < 20; j++) {
                w[j / 4] = w[j / 4] << 8 | (i + j < text.length() ? text.charAt(i + j) : random.nextInt(256));
            }
            CHECK.due(where + " feed", x.feed(w[0], w[1], w[2], w[3], w[4]),
                model.feed(w[0], w[1], w[2], w[3], w[4]));
        }
        int from = day();
        CHECK.due(where + " vote '" + text + "'", x.vote(text.length(), from), model.vote(text.length(), from));
        CHECK.due(where + " fault(0) of '" + text + "'", x.fault(0), model.fault(0));
        CHECK.due(where + " fault(1) of '" + text + "'", x.fault(1), model.fault(1));
    }

    private String text() {
        StringBuilder s = new StringBuilder();
        int lines = random.nextInt(6);
        for (int i = 0; i < lines; i++) {
            s.append(line()).append(random.nextInt(30) == 0 ? "" : ";").append(blanks());
        }
        if (s.length() > 0 && random.nextInt(4) == 0) {
            int at = random.nextInt(s.length());
            switch (random.nextInt(4)) {
                case 0 -> s.setLength(at);
                case 1 -> s.deleteCharAt(at);
                case 2 -> s.setCharAt(at, random.nextBoolean() ? (char) random.nextInt(256) : " ;,:0a".charAt(random.nextInt(6)));
                default -> s.insert(at, random.nextBoolean() ? line() : " ;,:0a".substring(random.nextInt(6)));
            }
        }
        return s.toString();
    }

    private String line() {
        String kind = KINDS[random.nextInt(4)] + blanks();
        switch (random.nextInt(8)) {
            case 0:
                return "rate " + kind + number(5);
            case 1:
                return "none " + kind;
            case 2:
                return "own" + blanks() + number(30);
            case 3:
                return "reserve " + number(300);
            case 4:
                return "other " + number(3) + " " + number(200);
            case 5:
                return "duty " + number(12) + blanks() + "less" + blanks() + number(50);
            default:
                StringBuilder s = new StringBuilder("season " + kind + blanks() + ":");
                int many = random.nextInt(25) == 0 ? 1 + random.nextInt(14) : 12;
                for (int i = 0; i < many; i++) {
                    s.append(i == 0 ? "" : ",").append(blanks()).append(number(200));
                }
                return s.toString();
        }
    }

    private String blanks() {
        return new String[] {"", " ", "\n", "  "}[random.nextInt(4)];
    }

    private String number(int most) {
        if (random.nextInt(60) == 0) {
            return new String[] {"1000", "1001", "100", "101", "3", "0007", "99999999999999999999"}[random.nextInt(7)];
        }
        return Integer.toString(random.nextInt(most));
    }

    private void note(String where) {
        int farm = pick(model.count(1));
        int what = random.nextInt(3) == 0 ? pick(9) : pick(4);
        int from = day();
        int v = what == 8 ? pick(20) : random.nextInt(5) == 0 ? pick(10001) : pick(300);
        CHECK.due(where + " note", x.note(farm, what, from, v), model.note(farm, what, from, v));
    }

    private void say(String where) {
        int fire = pick(model.count(4));
        int k = pick(3);
        int kind = pick(4);
        int hundredths = pick(101);
        CHECK.due(where + " say", x.say(fire, k, kind, hundredths), model.say(fire, k, kind, hundredths));
    }

    private void question(String where, int which) {
        int fire = pick(model.count(4));
        int farm = pick(model.count(1));
        int known = known();
        switch (which) {
            case 28, 29, 30 -> {
                int what = pick(6);
                CHECK.due(where + " award", x.award(fire, known, what), model.award(fire, known, what));
            }
            case 31, 32, 33 -> CHECK.due(where + " call", x.call(fire, farm, known), model.call(fire, farm, known));
            case 34 -> {
                int what = pick(9);
                int day = day();
                CHECK.due(where + " worth", x.worth(farm, what, day, known), model.worth(farm, what, day, known));
            }
            case 35 -> {
                int what = pick(19);
                int day = day();
                CHECK.due(where + " law", x.law(what, day, known), model.law(what, day, known));
            }
            case 36 -> {
                int k = pick(3);
                CHECK.dueCall(where + " judge", () -> x.judge(fire, k), Check.ask(() -> model.judge(fire, k)));
            }
            case 37 -> {
                int what = pick(8);
                CHECK.dueCall(where + " look", () -> x.look(fire, what), Check.ask(() -> model.look(fire, what)));
            }
            case 38 -> {
                int k = pick(12);
                int what = pick(3);
                CHECK.due(where + " booked", x.booked(k, what), model.booked(k, what));
                CHECK.dueCall(where + " account", () -> x.account(farm), Check.ask(() -> model.account(farm)));
            }
            default -> {
                int what = pick(7);
                CHECK.due(where + " count", x.count(what), model.count(what));
                CHECK.due(where + " fault", x.fault(what), model.fault(what));
            }
        }
    }
}
