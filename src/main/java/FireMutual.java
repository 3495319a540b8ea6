import java.util.NoSuchElementException;

/** A mutual of farms that insure one another against fire. DOC.md numbers what it promises. */
public final class FireMutual {
    public static final int NONE = -1;

    private static final int REFUSED = -2;
    private static final int DAYS = 720;
    private static final int DAYS_OF_MONTH = 30;
    private static final int MONTHS = 12;
    private static final int MOST_FARMS = 12;
    private static final int MOST_FIRES = 12;
    private static final int MOST_NOTES = 200;
    private static final int MOST_TEXTS = 10;
    private static final int MOST_BYTES = 1000;
    private static final int MOST_BOOKINGS = MOST_FIRES * MOST_FARMS;
    private static final int KINS = 10;
    private static final int CLASSES = 4;
    private static final int JUDGES = 3;
    private static final int OTHERS = 3;
    private static final int HUNDRED = 100;

    // What a note tells.
    private static final int ELSEWHERE = 4;
    private static final int BUCKETS = 8;
    private static final int TOLD_KINDS = 9;
    private static final int MOST_COINS = 10000;
    private static final int MOST_BUCKETS = 99;

    // What law() is asked for.
    private static final int LAW_RATE = 0;
    private static final int LAW_SEASON = 4;
    private static final int LAW_PAID = 8;
    private static final int LAW_DUTY = 12;
    private static final int LAW_LESS = 13;
    private static final int LAW_OWN = 14;
    private static final int LAW_RESERVE = 15;
    private static final int LAW_OTHER = 16;
    private static final int LAWS = 19;

    // Where the numbers of a text stand in its row; those behind SLOT_NONE stand as in law().
    private static final int SLOT_RATE = 0;
    private static final int SLOT_SEASON = SLOT_RATE + CLASSES;
    private static final int SLOT_NONE = SLOT_SEASON + CLASSES * MONTHS;
    private static final int SLOT_DUTY = SLOT_NONE + CLASSES;
    private static final int SLOT_OWN = SLOT_DUTY + 2;
    private static final int SLOT_RESERVE = SLOT_OWN + 1;
    private static final int SLOT_OTHER = SLOT_RESERVE + 1;
    private static final int SLOTS = SLOT_OTHER + OTHERS;

    // What award() is asked for.
    private static final int PART_AWARD = 0;
    private static final int PART_RESERVE = 1;
    private static final int PART_OTHER = 2;
    private static final int PART_CALLED = 5;
    private static final int PARTS = 6;

    private final Reader reader = new Reader();
    private final Statutes statutes = new Statutes();
    private final Farm[] farms = new Farm[MOST_FARMS];
    private final Fire[] fires = new Fire[MOST_FIRES];
    private final Parts parts = new Parts();
    private final Shares shares = new Shares();
    private final Ledger ledger = new Ledger();
    private int farmCount;
    private int fireCount;
    private int noteCount;
    private int today;

    public FireMutual() {
    }

    public int feed(int a, int b, int c, int d, int e) {
        Tape tape = reader.tape;
        if (!tape.hasRoom(20)) {
            return NONE;
        }
        tape.put(a);
        tape.put(b);
        tape.put(c);
        tape.put(d);
        tape.put(e);
        return tape.length;
    }

    public int vote(int n, int from) {
        if (n < 0 || n > reader.tape.length || !isDay(from) || statutes.isFull()) {
            return REFUSED;
        }
        Statute text = new Statute(today, from);
        boolean sound = reader.readText(n, text);
        reader.tape.clear();
        return sound ? statutes.enact(text) : NONE;
    }

    public int fault(int what) {
        if (what == 0) {
            return reader.fault;
        }
        return what == 1 ? reader.faultPlace : NONE;
    }

    public boolean undo(int text) {
        Statute old = statutes.textAt(text);
        if (old == null || old.undone != DAYS) {
            return false;
        }
        old.undone = today;
        return true;
    }

    public int pass(int days) {
        if (days < 0 || days > DAYS || !isDay(today + days)) {
            return NONE;
        }
        today += days;
        return today;
    }

    public int farm(int kin) {
        if (kin < 0 || kin >= KINS || farmCount < 0 || farmCount >= farms.length) {
            return NONE;
        }
        farms[farmCount] = new Farm(kin, today);
        farmCount++;
        return farmCount - 1;
    }

    public int note(int farm, int what, int from, int v) {
        Farm of = farmAt(farm);
        if (of == null || !isToldKind(what) || !isDay(from) || noteCount >= MOST_NOTES) {
            return NONE;
        }
        if (v < 0 || v > (what == BUCKETS ? MOST_BUCKETS : MOST_COINS)) {
            return NONE;
        }
        of.tell(what, today, from, v);
        noteCount++;
        return noteCount;
    }

    public int worth(int farm, int what, int day, int known) {
        Farm of = farmAt(farm);
        if (of == null || !isToldKind(what) || !isDay(day) || !isKnowable(known)) {
            return NONE;
        }
        return of.counted(what, day, known);
    }

    public int law(int what, int day, int known) {
        if (what < 0 || what >= LAWS || !isDay(day) || !isKnowable(known)) {
            return NONE;
        }
        return statutes.says(what, day, known);
    }

    public int fire(int farm, int seed) {
        Farm of = farmAt(farm);
        if (of == null || fireCount < 0 || fireCount >= fires.length) {
            return NONE;
        }
        Fire begun = new Fire(fireCount, farm, today);
        drawJudges(begun, of.kin, seed);
        fires[fireCount] = begun;
        fireCount++;
        return begun.number;
    }

    public int judge(int fire, int k) throws IndexOutOfBoundsException, NoSuchElementException {
        Fire of = fireAt(fire);
        if (of == null) {
            throw new IndexOutOfBoundsException("no such fire");
        }
        if (!of.hasJudge(k)) {
            throw new NoSuchElementException("no such judge");
        }
        return of.judgeAt(k);
    }

    public boolean say(int fire, int k, int kind, int hundredths) {
        Fire of = fireAt(fire);
        if (of == null || of.closed || !of.hasJudge(k) || !isClass(kind)) {
            return false;
        }
        if (hundredths < 0 || hundredths > HUNDRED) {
            return false;
        }
        of.hear(k, kind, hundredths);
        return true;
    }

    public boolean close(int fire) {
        Fire of = fireAt(fire);
        if (of == null || of.closed) {
            return false;
        }
        of.closed = true;
        return true;
    }

    public int look(int fire, int what) throws IndexOutOfBoundsException, NoSuchElementException {
        Fire of = fireAt(fire);
        if (of == null) {
            throw new IndexOutOfBoundsException("no such fire");
        }
        switch (what) {
            case 0:
                return of.farm;
            case 1:
                return of.day;
            case 2:
                return of.judgeCount;
            case 3:
                return of.closed ? 1 : 0;
            case 4:
            case 5:
            case 6:
            case 7:
                return of.lost(what - 4);
            default:
                throw new NoSuchElementException("no such what");
        }
    }

    public long award(int fire, int known, int what) {
        Fire of = fireAt(fire);
        if (of == null || what < 0 || what >= PARTS || !isKnowableOf(of, known)) {
            return NONE;
        }
        reckonParts(of, known);
        return parts.coins(what);
    }

    public long call(int fire, int farm, int known) {
        Fire of = fireAt(fire);
        if (of == null || farmAt(farm) == null || !isKnowableOf(of, known)) {
            return NONE;
        }
        reckonParts(of, known);
        reckonCalls(of, known);
        return shares.coins(farm);
    }

    public int book() {
        ledger.startPage();
        for (int i = 0; i < fireCount; i++) {
            Fire of = fireAt(i);
            if (of != null && of.closed) {
                reckonParts(of, today);
                reckonCalls(of, today);
                bookFire(of);
            }
        }
        return ledger.pageCount;
    }

    public long booked(int k, int what) {
        return ledger.entry(k, what);
    }

    public long account(int farm) throws NoSuchElementException {
        Farm of = farmAt(farm);
        if (of == null) {
            throw new NoSuchElementException("no such farm");
        }
        return of.balance;
    }

    public int count(int what) {
        switch (what) {
            case 0:
                return today;
            case 1:
                return farmCount;
            case 2:
                return statutes.textCount;
            case 3:
                return noteCount;
            case 4:
                return fireCount;
            case 5:
                return statutes.lineCount;
            case 6:
                return ledger.allCount;
            default:
                return NONE;
        }
    }

    private static boolean isDay(int day) {
        return day >= 0 && day < DAYS;
    }

    private static boolean isClass(int kind) {
        return kind >= 0 && kind < CLASSES;
    }

    private static boolean isToldKind(int what) {
        return what >= 0 && what < TOLD_KINDS;
    }

    private boolean isKnowable(int known) {
        return known >= 0 && known <= today;
    }

    private boolean isKnowableOf(Fire fire, int known) {
        return known >= fire.day && known <= today;
    }

    private Farm farmAt(int number) {
        return number >= 0 && number < farmCount && number < farms.length ? farms[number] : null;
    }

    private Fire fireAt(int number) {
        return number >= 0 && number < fireCount && number < fires.length ? fires[number] : null;
    }

    private void drawJudges(Fire fire, int kin, int seed) {
        int x = seed;
        for (int k = 0; k < JUDGES; k++) {
            int many = eligibleCount(fire, kin);
            if (many <= 0) {
                return;
            }
            x = 1103515245 * x + 12345;
            fire.addJudge(eligibleAt(fire, kin, (x >> 16 & 32767) % many));
        }
    }

    private int eligibleCount(Fire fire, int kin) {
        int many = 0;
        for (int i = 0; i < farmCount; i++) {
            if (isEligible(i, fire, kin)) {
                many++;
            }
        }
        return many;
    }

    private int eligibleAt(Fire fire, int kin, int place) {
        int ahead = place;
        for (int i = 0; i < farmCount; i++) {
            if (isEligible(i, fire, kin)) {
                if (ahead == 0) {
                    return i;
                }
                ahead--;
            }
        }
        return NONE;
    }

    private boolean isEligible(int number, Fire fire, int kin) {
        Farm neighbour = farmAt(number);
        return neighbour != null && neighbour.kin != kin && !fire.isJudge(number);
    }

    private void reckonParts(Fire fire, int known) {
        parts.start(reckonAward(fire, known));
        parts.bear(PART_RESERVE, statutes.says(LAW_RESERVE, fire.day, known));
        for (int i = 0; i < OTHERS; i++) {
            int other = (fire.number + i) % OTHERS;
            parts.bear(PART_OTHER + other, statutes.says(LAW_OTHER + other, fire.day, known));
        }
    }

    private long reckonAward(Fire fire, int known) {
        Farm farm = farmAt(fire.farm);
        if (farm == null) {
            return 0;
        }
        long sum = 0;
        for (int kind = 0; kind < CLASSES; kind++) {
            if (statutes.says(LAW_PAID + kind, fire.day, known) == 1) {
                sum += damage(farm, fire, kind, known);
            }
        }
        if (farm.counted(BUCKETS, fire.day, known) < statutes.says(LAW_DUTY, fire.day, known)) {
            sum = withoutHundredths(sum, statutes.says(LAW_LESS, fire.day, known));
        }
        return withoutHundredths(sum, statutes.says(LAW_OWN, fire.day, known));
    }

    private long damage(Farm farm, Fire fire, int kind, int known) {
        long worth = farm.counted(kind, fire.day, known);
        long insured = worth + farm.counted(ELSEWHERE + kind, fire.day, known);
        if (insured <= 0) {
            return 0;
        }
        long season = statutes.says(LAW_SEASON + kind, fire.day, known);
        long burnt = worth * season * fire.lost(kind) / (HUNDRED * HUNDRED);
        return burnt * worth / insured;
    }

    private static long withoutHundredths(long coins, long hundredths) {
        return coins - (coins * hundredths + HUNDRED - 1) / HUNDRED;
    }

    private void reckonCalls(Fire fire, int known) {
        shares.start();
        for (int kind = 0; kind < CLASSES; kind++) {
            long rate = statutes.says(LAW_RATE + kind, fire.day, known);
            for (int i = 0; i < farmCount; i++) {
                Farm member = farmAt(i);
                if (member != null && member.came <= fire.day) {
                    shares.weigh(i, rate * member.counted(kind, fire.day, known));
                }
            }
        }
        shares.spread(parts.coins(PART_CALLED));
    }

    private void bookFire(Fire fire) {
        for (int i = 0; i < farmCount; i++) {
            Farm farm = farmAt(i);
            if (farm != null) {
                long due = (i == fire.farm ? parts.coins(PART_AWARD) : 0) - shares.coins(i);
                bookFarm(fire, i, farm, due);
            }
        }
    }

    private void bookFarm(Fire fire, int number, Farm farm, long due) {
        long change = due - fire.settledOf(number);
        if (change != 0) {
            fire.settle(number, due);
            farm.balance += change;
            ledger.write(fire.number, number, change);
        }
    }

    /** What was told once, behind it what was told of the same farm and kind earlier. */
    private static final class Note {
        final int told;
        final int from;
        final int value;
        final Note earlier;

        Note(int told, int from, int value, Note earlier) {
            this.told = told;
            this.from = from;
            this.value = value;
            this.earlier = earlier;
        }
    }

    private static final class Farm {
        final int kin;
        final int came;
        long balance;
        private final Note[] latest = new Note[TOLD_KINDS];

        Farm(int kin, int came) {
            this.kin = kin;
            this.came = came;
        }

        void tell(int what, int told, int from, int value) {
            if (what >= 0 && what < latest.length) {
                latest[what] = new Note(told, from, value, latest[what]);
            }
        }

        int counted(int what, int day, int known) {
            if (what < 0 || what >= latest.length) {
                return 0;
            }
            int value = 0;
            int from = NONE;
            // The chain begins with what was told latest, so a like day further on does not count.
            for (Note note = latest[what]; note != null; note = note.earlier) {
                if (note.told <= known && note.from <= day && note.from > from) {
                    value = note.value;
                    from = note.from;
                }
            }
            return value;
        }
    }

    /** The numbers of one text; NONE where no line of the text tells one. */
    private static final class Statute {
        final int voted;
        final int from;
        int undone = DAYS;
        int lineCount;
        private final int[] row = new int[SLOTS];

        Statute(int voted, int from) {
            this.voted = voted;
            this.from = from;
            for (int i = 0; i < row.length; i++) {
                row[i] = NONE;
            }
        }

        boolean isInForce(int day, int known) {
            return from <= day && voted <= known && undone > known;
        }

        int numberAt(int slot) {
            return slot >= 0 && slot < row.length ? row[slot] : NONE;
        }

        void setNumber(int slot, int number) {
            if (slot >= 0 && slot < row.length) {
                row[slot] = number;
            }
        }
    }

    private static final class Statutes {
        int textCount;
        int lineCount;
        private final Statute[] texts = new Statute[MOST_TEXTS];

        boolean isFull() {
            return textCount >= texts.length;
        }

        Statute textAt(int number) {
            return number >= 0 && number < textCount && number < texts.length ? texts[number] : null;
        }

        int enact(Statute text) {
            if (textCount < 0 || textCount >= texts.length) {
                return REFUSED;
            }
            texts[textCount] = text;
            textCount++;
            lineCount += text.lineCount;
            return textCount - 1;
        }

        int says(int what, int day, int known) {
            if (what < LAW_SEASON) {
                return counted(SLOT_RATE + what - LAW_RATE, 1, day, known);
            }
            if (what < LAW_PAID) {
                int month = day / DAYS_OF_MONTH % MONTHS;
                int slot = SLOT_SEASON + (what - LAW_SEASON) * MONTHS + month;
                return counted(slot, HUNDRED, day, known);
            }
            if (what < LAW_DUTY) {
                return counted(SLOT_NONE + what - LAW_PAID, 1, day, known);
            }
            return counted(SLOT_DUTY + what - LAW_DUTY, 0, day, known);
        }

        private int counted(int slot, int otherwise, int day, int known) {
            int number = otherwise;
            int from = NONE;
            for (int i = 0; i < textCount; i++) {
                Statute text = textAt(i);
                if (text == null || text.from < from || !text.isInForce(day, known)) {
                    continue;
                }
                if (text.numberAt(slot) != NONE) {
                    number = text.numberAt(slot);
                    from = text.from;
                }
            }
            return number;
        }
    }

    /** Bytes that wait for a vote, and the tokens of their first ones. */
    private static final class Tape {
        static final int END = 0;
        static final int WORD = 1;
        static final int NUMBER = 2;
        static final int MARK = 3;
        static final int NO_TOKEN = 4;
        private static final int TOO_MUCH = 1001;

        int length;
        int kind;
        int place;
        int value;
        private int next;
        private int end;
        private final byte[] bytes = new byte[MOST_BYTES];

        boolean hasRoom(int many) {
            return length + many <= bytes.length;
        }

        void put(int number) {
            for (int shift = 24; shift >= 0; shift -= 8) {
                if (length >= 0 && length < bytes.length) {
                    bytes[length] = (byte) (number >> shift);
                    length++;
                }
            }
        }

        void clear() {
            length = 0;
        }

        void start(int n) {
            end = n;
            next = 0;
            advance();
        }

        void advance() {
            while (next < end && isBlank(signAt(next))) {
                next++;
            }
            place = next;
            int sign = signAt(next);
            if (next >= end) {
                kind = END;
            } else if (isSmallLetter(sign)) {
                kind = WORD;
                while (next < end && isSmallLetter(signAt(next))) {
                    next++;
                }
            } else if (isDigit(sign)) {
                kind = NUMBER;
                value = 0;
                while (next < end && isDigit(signAt(next))) {
                    // Held at one too many, so that no row of digits comes round to a small number.
                    value = Math.min(TOO_MUCH, value * 10 + signAt(next) - '0');
                    next++;
                }
            } else {
                kind = sign == ';' || sign == ':' || sign == ',' ? MARK : NO_TOKEN;
                value = sign;
                next++;
            }
        }

        boolean isMark(char mark) {
            return kind == MARK && value == mark;
        }

        boolean isWord(String word) {
            if (kind != WORD || next - place != word.length()) {
                return false;
            }
            for (int i = 0; i < word.length(); i++) {
                if (signAt(place + i) != word.charAt(i)) {
                    return false;
                }
            }
            return true;
        }

        private int signAt(int i) {
            return i >= 0 && i < end && i < bytes.length ? bytes[i] & 255 : NONE;
        }

        private static boolean isBlank(int sign) {
            return sign == 10 || sign == 32;
        }

        private static boolean isSmallLetter(int sign) {
            return sign >= 'a' && sign <= 'z';
        }

        private static boolean isDigit(int sign) {
            return sign >= '0' && sign <= '9';
        }
    }

    /** Reads a text into a statute, up to its first fault. */
    private static final class Reader {
        private static final int CANT_STAND = 1;
        private static final int TOO_HIGH = 2;
        private static final int TOLD_TWICE = 3;
        private static final int MOST_NUMBER = 1000;

        final Tape tape = new Tape();
        int fault;
        int faultPlace = NONE;
        private final int[] numbers = new int[MONTHS];

        boolean readText(int n, Statute into) {
            fault = 0;
            faultPlace = NONE;
            tape.start(n);
            for (int line = 0; line < MOST_BYTES && tape.kind != Tape.END; line++) {
                if (!readLine(into) || !takeMark(';')) {
                    return false;
                }
            }
            return true;
        }

        private boolean readLine(Statute into) {
            int start = tape.place;
            if (takeWord("rate")) {
                return readRate(start, into);
            }
            if (takeWord("season")) {
                return readSeason(start, into);
            }
            if (takeWord("duty")) {
                return readDuty(start, into);
            }
            if (takeWord("none")) {
                return readNone(start, into);
            }
            if (takeWord("own")) {
                return takeNumber(0, HUNDRED) && keep(start, SLOT_OWN, 1, into);
            }
            if (takeWord("reserve")) {
                return takeNumber(0, MOST_NUMBER) && keep(start, SLOT_RESERVE, 1, into);
            }
            if (takeWord("other")) {
                return readOther(start, into);
            }
            return fail(CANT_STAND, start);
        }

        private boolean readRate(int start, Statute into) {
            int kind = takeClass();
            return kind != NONE && takeNumber(0, MOST_NUMBER) && keep(start, SLOT_RATE + kind, 1, into);
        }

        private boolean readSeason(int start, Statute into) {
            int kind = takeClass();
            if (kind == NONE || !takeMark(':')) {
                return false;
            }
            for (int month = 0; month < MONTHS; month++) {
                if (month > 0 && !takeMark(',')) {
                    return false;
                }
                if (!takeNumber(month, MOST_NUMBER)) {
                    return false;
                }
            }
            if (tape.isMark(',')) {
                tape.advance();
                return fail(tape.kind == Tape.NUMBER ? TOO_HIGH : CANT_STAND, tape.place);
            }
            return keep(start, SLOT_SEASON + kind * MONTHS, MONTHS, into);
        }

        private boolean readDuty(int start, Statute into) {
            if (!takeNumber(0, MOST_NUMBER)) {
                return false;
            }
            if (!takeWord("less")) {
                return fail(CANT_STAND, tape.place);
            }
            return takeNumber(1, HUNDRED) && keep(start, SLOT_DUTY, 2, into);
        }

        private boolean readNone(int start, Statute into) {
            int kind = takeClass();
            // A class that is not paid answers law() with 0, which is what its slot holds.
            numbers[0] = 0;
            return kind != NONE && keep(start, SLOT_NONE + kind, 1, into);
        }

        private boolean readOther(int start, Statute into) {
            if (!takeNumber(0, OTHERS - 1)) {
                return false;
            }
            int slot = SLOT_OTHER + numbers[0];
            return takeNumber(0, MOST_NUMBER) && keep(start, slot, 1, into);
        }

        private int takeClass() {
            int kind = NONE;
            if (tape.isWord("house")) {
                kind = 0;
            } else if (tape.isWord("barn")) {
                kind = 1;
            } else if (tape.isWord("beasts")) {
                kind = 2;
            } else if (tape.isWord("hay")) {
                kind = 3;
            } else {
                fail(CANT_STAND, tape.place);
                return NONE;
            }
            tape.advance();
            return kind;
        }

        private boolean takeWord(String word) {
            if (!tape.isWord(word)) {
                return false;
            }
            tape.advance();
            return true;
        }

        private boolean takeMark(char mark) {
            if (!tape.isMark(mark)) {
                return fail(CANT_STAND, tape.place);
            }
            tape.advance();
            return true;
        }

        private boolean takeNumber(int index, int most) {
            if (tape.kind != Tape.NUMBER || index < 0 || index >= numbers.length) {
                return fail(CANT_STAND, tape.place);
            }
            if (tape.value > most) {
                return fail(TOO_HIGH, tape.place);
            }
            numbers[index] = tape.value;
            tape.advance();
            return true;
        }

        /** The line is whole: only now may it be at fault for its key. */
        private boolean keep(int start, int slot, int many, Statute into) {
            if (into.numberAt(slot) != NONE) {
                return fail(TOLD_TWICE, start);
            }
            for (int i = 0; i < many && i < numbers.length; i++) {
                into.setNumber(slot + i, numbers[i]);
            }
            into.lineCount++;
            return true;
        }

        private boolean fail(int kind, int place) {
            fault = kind;
            faultPlace = place;
            return false;
        }
    }

    private static final class Fire {
        final int number;
        final int farm;
        final int day;
        int judgeCount;
        boolean closed;
        private final int[] judges = new int[JUDGES];
        private final int[] heard = new int[JUDGES * CLASSES];
        private final long[] settled = new long[MOST_FARMS];

        Fire(int number, int farm, int day) {
            this.number = number;
            this.farm = farm;
            this.day = day;
        }

        void addJudge(int neighbour) {
            if (judgeCount >= 0 && judgeCount < judges.length) {
                judges[judgeCount] = neighbour;
                judgeCount++;
            }
        }

        boolean hasJudge(int k) {
            return k >= 0 && k < judgeCount;
        }

        int judgeAt(int k) {
            return k >= 0 && k < judges.length ? judges[k] : NONE;
        }

        boolean isJudge(int neighbour) {
            for (int k = 0; k < judgeCount; k++) {
                if (judgeAt(k) == neighbour) {
                    return true;
                }
            }
            return false;
        }

        void hear(int k, int kind, int hundredths) {
            int i = k * CLASSES + kind;
            if (i >= 0 && i < heard.length) {
                heard[i] = hundredths;
            }
        }

        int lost(int kind) {
            int a = heardAt(0, kind);
            int b = heardAt(1, kind);
            int c = heardAt(2, kind);
            if (judgeCount < 2) {
                return a;
            }
            if (judgeCount == 2) {
                return Math.min(a, b);
            }
            return Math.max(Math.min(a, b), Math.min(Math.max(a, b), c));
        }

        long settledOf(int neighbour) {
            return neighbour >= 0 && neighbour < settled.length ? settled[neighbour] : 0;
        }

        void settle(int neighbour, long coins) {
            if (neighbour >= 0 && neighbour < settled.length) {
                settled[neighbour] = coins;
            }
        }

        private int heardAt(int k, int kind) {
            int i = k * CLASSES + kind;
            return i >= 0 && i < heard.length ? heard[i] : 0;
        }
    }

    /** Who bears an award; what nobody has borne yet is called. */
    private static final class Parts {
        private final long[] coins = new long[PARTS];

        void start(long award) {
            for (int i = 0; i < coins.length; i++) {
                coins[i] = i == PART_AWARD || i == PART_CALLED ? award : 0;
            }
        }

        void bear(int part, long most) {
            if (part >= 0 && part < coins.length) {
                long borne = Math.min(most, coins[PART_CALLED]);
                coins[part] = borne;
                coins[PART_CALLED] -= borne;
            }
        }

        long coins(int part) {
            return part >= 0 && part < coins.length ? coins[part] : 0;
        }
    }

    /** A call on all farms by their weights, coin by coin. */
    private static final class Shares {
        private final long[] weights = new long[MOST_FARMS];
        private final long[] coins = new long[MOST_FARMS];
        private final long[] cutOff = new long[MOST_FARMS];

        void start() {
            for (int i = 0; i < MOST_FARMS; i++) {
                weights[i] = 0;
                coins[i] = 0;
            }
        }

        void weigh(int number, long weight) {
            if (number >= 0 && number < weights.length) {
                weights[number] += weight;
            }
        }

        void spread(long called) {
            long all = 0;
            for (int i = 0; i < weights.length; i++) {
                all += weights[i];
            }
            if (all <= 0) {
                coins[0] = called;
                return;
            }
            long left = called;
            for (int i = 0; i < MOST_FARMS; i++) {
                coins[i] = called * weights[i] / all;
                cutOff[i] = called * weights[i] % all;
                left -= coins[i];
            }
            for (int i = 0; i < MOST_FARMS && left > 0; i++) {
                addCoin();
                left--;
            }
        }

        long coins(int number) {
            return number >= 0 && number < coins.length ? coins[number] : 0;
        }

        private void addCoin() {
            int most = 0;
            for (int i = 1; i < cutOff.length; i++) {
                if (cutOff[i] > cutOff[most]) {
                    most = i;
                }
            }
            coins[most]++;
            cutOff[most] = NONE;
        }
    }

    /** The bookings of the latest book(), and how many there were in all. */
    private static final class Ledger {
        int pageCount;
        int allCount;
        private final int[] fires = new int[MOST_BOOKINGS];
        private final int[] farms = new int[MOST_BOOKINGS];
        private final long[] changes = new long[MOST_BOOKINGS];

        void startPage() {
            pageCount = 0;
        }

        void write(int fire, int farm, long change) {
            if (pageCount >= 0 && pageCount < MOST_BOOKINGS) {
                fires[pageCount] = fire;
                farms[pageCount] = farm;
                changes[pageCount] = change;
                pageCount++;
                allCount++;
            }
        }

        long entry(int k, int what) {
            if (k < 0 || k >= pageCount || k >= MOST_BOOKINGS) {
                return NONE;
            }
            switch (what) {
                case 0:
                    return fires[k];
                case 1:
                    return farms[k];
                case 2:
                    return changes[k];
                default:
                    return NONE;
            }
        }
    }
}
