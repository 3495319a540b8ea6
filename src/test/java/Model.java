import java.math.BigInteger;
import java.util.ArrayList;
import java.util.HashMap;
import java.util.List;
import java.util.Map;
import java.util.NoSuchElementException;
import java.util.TreeMap;
import java.util.regex.Matcher;
import java.util.regex.Pattern;

/** The document once more, as plainly as the Java library lets one say it, for RandomRunsTest. */
final class Model implements Face {
    private record Farm(int kin, int came) { }

    private record Note(int farm, int what, int told, int from, int v) { }

    private record Fire(int farm, int day, List<Integer> judges, int[][] said, Map<Integer, Long> booked) { }

    private record Booking(int fire, int farm, long much) { }

    private static final class Text {
        int voted;
        int from;
        int undone = Integer.MAX_VALUE;
        int lines;
        final Map<String, List<Integer>> byKey = new HashMap<>();
    }

    private static final class Fault extends Exception {
        private static final long serialVersionUID = 1;
        final int kind;
        final int place;

        Fault(int kind, int place) {
            this.kind = kind;
            this.place = place;
        }
    }

    private static final List<String> CLASSES = List.of("house", "barn", "beasts", "hay");
    private static final Pattern TOKEN = Pattern.compile("[ \n]+|[a-z]+|[0-9]+|(?s:.)");

    private final StringBuilder tape = new StringBuilder();
    private final List<Text> texts = new ArrayList<>();
    private final List<Farm> farms = new ArrayList<>();
    private final List<Note> notes = new ArrayList<>();
    private final List<Fire> fires = new ArrayList<>();
    private final List<Integer> closed = new ArrayList<>();
    private List<Booking> page = new ArrayList<>();
    private int bookings;
    private int today;
    private int fault;
    private int place = -1;

    @Override
    public int left() {
        return Integer.MAX_VALUE;
    }

    @Override
    public int feed(int a, int b, int c, int d, int e) {
        if (tape.length() + 20 > 1000) {
            return -1;
        }
        for (int w : new int[] {a, b, c, d, e}) {
            for (byte sign : BigInteger.valueOf(w & 0xffffffffL | 1L << 40).toByteArray()) {
                tape.append((char) (sign & 255));
            }
            tape.delete(tape.length() - 6, tape.length() - 4);
        }
        return tape.length();
    }

    @Override
    public int vote(int n, int from) {
        if (n < 0 || n > tape.length() || from < 0 || from > 719 || texts.size() == 10) {
            return -2;
        }
        String s = tape.substring(0, n);
        tape.setLength(0);
        Text t = new Text();
        t.voted = today;
        t.from = from;
        try {
            parse(s, t);
        } catch (Fault f) {
            fault = f.kind;
            place = f.place;
            return -1;
        }
        fault = 0;
        place = -1;
        texts.add(t);
        return texts.size() - 1;
    }

    // ---- texts: a row of tokens with places; a form for each first word.

    private List<String> tokens;
    private List<Integer> places;
    private int at;

    private void parse(String s, Text t) throws Fault {
        tokens = new ArrayList<>();
        places = new ArrayList<>();
        at = 0;
        Matcher m = TOKEN.matcher(s);
        while (m.find()) {
            if (!m.group().isBlank() || m.group().charAt(0) != ' ' && m.group().charAt(0) != '\n') {
                tokens.add(m.group());
                places.add(m.start());
            }
        }
        tokens.add("");
        places.add(s.length());
        while (!tokens.get(at).isEmpty()) {
            int start = places.get(at);
            List<Integer> numbers = new ArrayList<>();
            String key = form(numbers);
            if (t.byKey.containsKey(key)) {
                throw new Fault(3, start);
            }
            t.byKey.put(key, numbers);
            t.lines++;
            word(";");
        }
    }

    private String form(List<Integer> numbers) throws Fault {
        String first = tokens.get(at);
        switch (first) {
            case "rate" -> {
                at++;
                String c = kind();
                numbers.add(number(1000));
                return "rate " + c;
            }
            case "none" -> {
                at++;
                return "none " + kind();
            }
            case "own", "reserve" -> {
                at++;
                numbers.add(number(first.equals("own") ? 100 : 1000));
                return first;
            }
            case "other" -> {
                at++;
                int which = number(2);
                numbers.add(number(1000));
                return "other " + which;
            }
            case "duty" -> {
                at++;
                numbers.add(number(1000));
                word("less");
                numbers.add(number(100));
                return "duty";
            }
            case "season" -> {
                at++;
                String c = kind();
                word(":");
                numbers.add(number(1000));
                while (tokens.get(at).equals(",")) {
                    at++;
                    numbers.add(number(numbers.size() == 12 ? -1 : 1000));
                }
                if (numbers.size() < 12) {
                    throw new Fault(1, places.get(at));
                }
                return "season " + c;
            }
            default -> throw new Fault(1, places.get(at));
        }
    }

    private void word(String w) throws Fault {
        if (!tokens.get(at).equals(w)) {
            throw new Fault(1, places.get(at));
        }
        at++;
    }

    private String kind() throws Fault {
        if (!CLASSES.contains(tokens.get(at))) {
            throw new Fault(1, places.get(at));
        }
        return tokens.get(at++);
    }

    private int number(int most) throws Fault {
        String t = tokens.get(at);
        if (!t.matches("[0-9]+")) {
            throw new Fault(1, places.get(at));
        }
        if (new BigInteger(t).compareTo(BigInteger.valueOf(most)) > 0) {
            throw new Fault(2, places.get(at));
        }
        at++;
        return new BigInteger(t).intValue();
    }

    @Override
    public int fault(int what) {
        return what == 0 ? fault : what == 1 ? place : -1;
    }

    @Override
    public boolean undo(int text) {
        if (text < 0 || text >= texts.size() || texts.get(text).undone <= 719) {
            return false;
        }
        texts.get(text).undone = today;
        return true;
    }

    @Override
    public int pass(int days) {
        if (days < 0 || days > 720 || today + days > 719) {
            return -1;
        }
        return today += days;
    }

    @Override
    public int farm(int kin) {
        if (kin < 0 || kin > 9 || farms.size() == 12) {
            return -1;
        }
        farms.add(new Farm(kin, today));
        return farms.size() - 1;
    }

    @Override
    public int note(int farm, int what, int from, int v) {
        if (farm < 0 || farm >= farms.size() || what < 0 || what > 8 || from < 0 || from > 719
            || v < 0 || v > (what == 8 ? 99 : 10000) || notes.size() == 200) {
            return -1;
        }
        notes.add(new Note(farm, what, today, from, v));
        return notes.size();
    }

    @Override
    public int worth(int farm, int what, int day, int known) {
        if (farm < 0 || farm >= farms.size() || what < 0 || what > 8 || day < 0 || day > 719 || known < 0 || known > today) {
            return -1;
        }
        TreeMap<Integer, Integer> byDay = new TreeMap<>();
        for (Note n : notes) {
            if (n.farm == farm && n.what == what && n.told <= known) {
                byDay.put(n.from, n.v);
            }
        }
        Map.Entry<Integer, Integer> e = byDay.floorEntry(day);
        return e == null ? 0 : e.getValue();
    }

    private List<Integer> line(String key, int day, int known) {
        TreeMap<Integer, List<Integer>> byFrom = new TreeMap<>();
        for (Text t : texts) {
            if (t.voted <= known && t.undone > known && t.byKey.containsKey(key)) {
                byFrom.put(t.from, t.byKey.get(key));
            }
        }
        Map.Entry<Integer, List<Integer>> e = byFrom.floorEntry(day);
        return e == null ? null : e.getValue();
    }

    @Override
    public int law(int what, int day, int known) {
        if (what < 0 || what > 18 || day < 0 || day > 719 || known < 0 || known > today) {
            return -1;
        }
        String c = CLASSES.get(what % 4);
        if (what < 4) {
            return orElse(line("rate " + c, day, known), 0, 1);
        }
        if (what < 8) {
            return orElse(line("season " + c, day, known), day / 30 % 12, 100);
        }
        if (what < 12) {
            return line("none " + c, day, known) == null ? 1 : 0;
        }
        if (what < 14) {
            return orElse(line("duty", day, known), what - 12, 0);
        }
        return orElse(line(what == 14 ? "own" : what == 15 ? "reserve" : "other " + (what - 16), day, known), 0, 0);
    }

    private static int orElse(List<Integer> line, int i, int otherwise) {
        return line == null ? otherwise : line.get(i);
    }

    @Override
    public int fire(int farm, int seed) {
        if (farm < 0 || farm >= farms.size() || fires.size() == 12) {
            return -1;
        }
        List<Integer> row = new ArrayList<>();
        for (int i = 0; i < farms.size(); i++) {
            if (farms.get(i).kin != farms.get(farm).kin) {
                row.add(i);
            }
        }
        List<Integer> judges = new ArrayList<>();
        long x = seed & 0xffffffffL;
        while (judges.size() < 3 && !row.isEmpty()) {
            x = (1103515245L * x + 12345) % (1L << 32);
            judges.add(row.remove((int) (x / 65536 % 32768 % row.size())));
        }
        fires.add(new Fire(farm, today, judges, new int[judges.size()][4], new HashMap<>()));
        return fires.size() - 1;
    }

    @Override
    public int judge(int fire, int k) {
        if (fire < 0 || fire >= fires.size()) {
            throw new IndexOutOfBoundsException();
        }
        if (k < 0 || k >= fires.get(fire).judges.size()) {
            throw new NoSuchElementException();
        }
        return fires.get(fire).judges.get(k);
    }

    @Override
    public boolean say(int fire, int k, int kind, int hundredths) {
        if (fire < 0 || fire >= fires.size() || k < 0 || k >= fires.get(fire).judges.size() || kind < 0 || kind > 3
            || hundredths < 0 || hundredths > 100 || closed.contains(fire)) {
            return false;
        }
        fires.get(fire).said[k][kind] = hundredths;
        return true;
    }

    @Override
    public boolean close(int fire) {
        return fire >= 0 && fire < fires.size() && !closed.contains(fire) && closed.add(fire);
    }

    private int lost(Fire f, int kind) {
        int[] all = f.judges.isEmpty() ? new int[1] : new int[f.judges.size()];
        for (int k = 0; k < f.judges.size(); k++) {
            all[k] = f.said[k][kind];
        }
        java.util.Arrays.sort(all);
        return all[all.length == 3 ? 1 : 0];
    }

    @Override
    public int look(int fire, int what) {
        if (fire < 0 || fire >= fires.size()) {
            throw new IndexOutOfBoundsException();
        }
        if (what < 0 || what > 7) {
            throw new NoSuchElementException();
        }
        Fire f = fires.get(fire);
        if (what >= 4) {
            return lost(f, what - 4);
        }
        return new int[] {f.farm, f.day, f.judges.size(), closed.contains(fire) ? 1 : 0}[what];
    }

    private static BigInteger big(long v) {
        return BigInteger.valueOf(v);
    }

    private long[] parts(int fire, int known) {
        Fire f = fires.get(fire);
        BigInteger sum = BigInteger.ZERO;
        for (int c = 0; c < 4; c++) {
            BigInteger worth = big(worth(f.farm, c, f.day, known));
            BigInteger both = worth.add(big(worth(f.farm, 4 + c, f.day, known)));
            if (law(8 + c, f.day, known) == 1 && both.signum() > 0) {
                BigInteger burnt = worth.multiply(big(law(4 + c, f.day, known))).multiply(big(lost(f, c))).divide(big(10000));
                sum = sum.add(burnt.multiply(worth).divide(both));
            }
        }
        long award = sum.longValueExact();
        if (worth(f.farm, 8, f.day, known) < law(12, f.day, known)) {
            award -= -Math.floorDiv(-award * law(13, f.day, known), 100L);
        }
        award -= -Math.floorDiv(-award * law(14, f.day, known), 100L);
        long[] p = new long[6];
        p[0] = award;
        p[1] = Math.min(award, law(15, f.day, known));
        long rest = award - p[1];
        for (int i = fire; i < fire + 3; i++) {
            p[2 + i % 3] = Math.min(rest, law(16 + i % 3, f.day, known));
            rest -= p[2 + i % 3];
        }
        p[5] = rest;
        return p;
    }

    private long[] calls(int fire, int known) {
        Fire f = fires.get(fire);
        long rest = parts(fire, known)[5];
        long[] weights = new long[farms.size()];
        long all = 0;
        for (int i = 0; i < weights.length; i++) {
            for (int c = 0; c < 4 && farms.get(i).came <= f.day; c++) {
                weights[i] += (long) worth(i, c, f.day, known) * law(c, f.day, known);
            }
            all += weights[i];
        }
        long[] calls = new long[weights.length];
        if (all == 0) {
            calls[0] = rest;
            return calls;
        }
        List<Integer> order = new ArrayList<>();
        long left = rest;
        for (int i = 0; i < weights.length; i++) {
            calls[i] = rest * weights[i] / all;
            left -= calls[i];
            order.add(i);
        }
        long total = all;
        order.sort((a, b) -> Long.compare(rest * weights[b] % total, rest * weights[a] % total));
        for (int i = 0; i < left; i++) {
            calls[order.get(i)]++;
        }
        return calls;
    }

    private boolean cannotKnow(int fire, int known) {
        return fire < 0 || fire >= fires.size() || known < fires.get(fire).day || known > today;
    }

    @Override
    public long award(int fire, int known, int what) {
        return cannotKnow(fire, known) || what < 0 || what > 5 ? -1 : parts(fire, known)[what];
    }

    @Override
    public long call(int fire, int farm, int known) {
        return cannotKnow(fire, known) || farm < 0 || farm >= farms.size() ? -1 : calls(fire, known)[farm];
    }

    @Override
    public int book() {
        page = new ArrayList<>();
        for (int i = 0; i < fires.size(); i++) {
            for (int j = 0; j < farms.size() && closed.contains(i); j++) {
                Fire f = fires.get(i);
                long due = (f.farm == j ? parts(i, today)[0] : 0) - calls(i, today)[j];
                long change = due - f.booked.getOrDefault(j, 0L);
                f.booked.put(j, due);
                if (change != 0) {
                    page.add(new Booking(i, j, change));
                }
            }
        }
        bookings += page.size();
        return page.size();
    }

    @Override
    public long booked(int k, int what) {
        if (k < 0 || k >= page.size() || what < 0 || what > 2) {
            return -1;
        }
        Booking b = page.get(k);
        return what == 0 ? b.fire : what == 1 ? b.farm : b.much;
    }

    @Override
    public long account(int farm) {
        if (farm < 0 || farm >= farms.size()) {
            throw new NoSuchElementException();
        }
        return fires.stream().mapToLong(f -> f.booked.getOrDefault(farm, 0L)).sum();
    }

    @Override
    public int count(int what) {
        int lines = texts.stream().mapToInt(t -> t.lines).sum();
        int[] all = {today, farms.size(), texts.size(), notes.size(), fires.size(), lines, bookings};
        return what < 0 || what > 6 ? -1 : all[what];
    }
}
