/** The last speaker of a tongue, the wooers who learn it from her, and what becomes of it among them. */
public final class LastTongue {
    public static final int BAD = -1, NO = -2, FULL = -3, NONE = -4;

    private static final int WORDS = 8, WOOERS = 5, LETTERS = 200;
    private static final int DEAF = 1, QUICK = 2, PROUD = 3;
    private static final int HEARINGS = 6, ACTS = 8, KEEPS = 2, HAIL_DAYS = 8, MEND_DAYS = 5;
    private static final int MOST_DAYS = 999, NEED_UNTOLD = 3;
    private static final int ROWS_OF_THREE = 512;
    private static final String FIRST_TEXT =
        "t37104925;w0,5,3---4---;w1,9,-7------;w2,3,---1-9--;w3,12,37-6----;w0,8,--------;s4;";

    private final Text text;
    private final Table now;
    private final Table draft;
    private final Table trial;
    private final Table[] levels;
    private final Table[] past;
    private final Table[] stored;
    private final Hearsay heard;
    private final int[] pairs;
    private int undos;
    private int latest;
    private int keeps;

    public LastTongue() {
        Text script = new Text();
        Table first = new Table();
        script.take(FIRST_TEXT);
        script.readInto(first);
        script.length = 0;
        text = script;
        now = first;
        draft = new Table();
        trial = new Table();
        levels = tables(HAIL_DAYS + 1);
        past = tables(ACTS);
        stored = tables(KEEPS);
        heard = new Hearsay();
        pairs = new int[WOOERS * (WOOERS - 1) / 2];
        undos = 0;
        latest = 0;
        keeps = 0;
    }

    // ---- tongues

    public int write(int letter) {
        if (letter < 32 || letter > 126) {
            return BAD;
        }
        return text.append(letter) ? text.length : FULL;
    }

    public int wipe() {
        int was = text.length;
        text.length = 0;
        return was;
    }

    public int fault() {
        return text.readInto(draft);
    }

    public int lay() {
        if (text.readInto(draft) != NONE || draft.words == 0 || draft.wooers == 0) {
            return NO;
        }
        now.copy(draft);
        heard.count = 0;
        undos = 0;
        keeps = 0;
        return now.wooers;
    }

    public int sound(int w) {
        return now.isWord(w) ? at(now.sounds, w) : BAD;
    }

    public int wooer(int p, int what) {
        if (!now.isWooer(p)) {
            return BAD;
        }
        switch (what) {
            case 0: return at(now.kind, p);
            case 1: return at(now.memory, p);
            case 2: return at(now.has, p);
            case 3: return at(now.right, p);
            case 4: return now.isSpeaker(p) ? 1 : 0;
            default: return BAD;
        }
    }

    public int word(int p, int w, int what) {
        if (!now.isWooer(p) || !now.isWord(w) || what < 0 || what > 1) {
            return BAD;
        }
        if (!now.holds(p, w)) {
            return NONE;
        }
        return what == 0 ? now.wayOf(p, w) : now.ageOf(p, w);
    }

    // ---- acts

    public int lesson(int p, int w) {
        if (!now.isWooer(p) || !now.isWord(w)) {
            return BAD;
        }
        noteAct();
        now.teach(p, w);
        return now.wayOf(p, w);
    }

    public int pass(int n) {
        if (n < 1 || n > 24) {
            return BAD;
        }
        if (now.days + n > MOST_DAYS) {
            return NO;
        }
        noteAct();
        now.spend(n);
        return now.speakers();
    }

    public int mend(int p, int w) {
        if (!now.isWooer(p) || !now.isWord(w)) {
            return BAD;
        }
        if (!now.canRepair(p, w)) {
            return NO;
        }
        int was = now.wayOf(p, w);
        noteAct();
        now.repair(p, w);
        return was;
    }

    public int change(int p, int q) {
        if (!now.isWooer(p) || !now.isWooer(q) || p == q) {
            return BAD;
        }
        noteAct();
        now.swapSeats(p, q);
        return at(now.kind, p);
    }

    public int undo() {
        if (undos <= 0) {
            return NO;
        }
        latest = (latest + ACTS - 1) % ACTS;
        now.copy(tableAt(past, latest));
        undos--;
        return undos;
    }

    // ---- what comes, what is best

    public int behind(int n, int p, int w) {
        if (n < 0 || n > 40 || !now.isWooer(p) || w != -1 && !now.isWord(w)) {
            return BAD;
        }
        trial.copy(now);
        trial.spend(n);
        if (w == -1) {
            return trial.rightOf(p);
        }
        return trial.holds(p, w) ? trial.wayOf(p, w) : NONE;
    }

    public int made(int p) {
        if (!now.isWooer(p)) {
            return BAD;
        }
        trial.copy(now);
        for (int day = 0; day <= 60; day++) {
            if (trial.isSpeaker(p)) {
                return day;
            }
            trial.spendDay(true);
        }
        return NONE;
    }

    public int best(int p, int n, int k) {
        if (!now.isWooer(p) || n < 1 || n > 3 || k < -1 || k > 2) {
            return BAD;
        }
        if (k >= n) {
            return NONE;
        }
        startLevels();
        int found = bestFrom(levels, 0, n, p, 0);
        if (k == -1) {
            return found / ROWS_OF_THREE;
        }
        int row = ROWS_OF_THREE - 1 - found % ROWS_OF_THREE;
        return row >> 3 * (n - 1 - k) & 7;
    }

    public int mends(int what) {
        if (what < 0 || what > 1) {
            return BAD;
        }
        int whose = NONE;
        int most = NONE;
        for (int p = 0; p < now.wooers; p++) {
            for (int w = 0; w < now.words; w++) {
                int many = now.canRepair(p, w) ? rightOnceMended(p, w) : NONE;
                if (many > most) {
                    most = many;
                    whose = 10 * p + w;
                }
            }
        }
        return what == 0 ? whose : most;
    }

    public int two(int what) {
        if (what < 0 || what > 1) {
            return BAD;
        }
        int who = NONE;
        int most = NONE;
        for (int p = 0; p < now.wooers; p++) {
            for (int q = p + 1; q < now.wooers; q++) {
                int many = Integer.bitCount(at(now.right, p) | at(now.right, q));
                if (many > most) {
                    most = many;
                    who = 10 * p + q;
                }
            }
        }
        return what == 0 ? who : most;
    }

    public int tests(int what) {
        if (what < 0 || what > 1) {
            return BAD;
        }
        int many = comparePairs();
        int fewest = NONE;
        int which = NONE;
        for (int set = 0; set < 1 << now.words; set++) {
            int size = Integer.bitCount(set);
            if ((fewest == NONE || size < fewest) && partsAll(set, many)) {
                fewest = size;
                which = set;
            }
        }
        return what == 0 ? fewest : which;
    }

    public int other() {
        int bits = 0;
        for (int w = 0; w < now.words; w++) {
            if (now.isAnother(w)) {
                bits |= 1 << w;
            }
        }
        return bits;
    }

    // ---- what was heard

    public int hear(int w, int v, int n) {
        if (!now.isWord(w) || v < 0 || v > 10 || n < 0 || n > 20) {
            return BAD;
        }
        return heard.add(w, v, n) ? heard.count : FULL;
    }

    public int forget() {
        int were = heard.count;
        heard.count = 0;
        return were;
    }

    public int which() {
        trial.copy(now);
        return heard.fitting(trial);
    }

    public int kinds(int p) {
        if (!now.isWooer(p)) {
            return BAD;
        }
        int bits = 0;
        for (int kind = 0; kind <= PROUD; kind++) {
            trial.copy(now);
            put(trial.kind, p, kind);
            if ((heard.fitting(trial) >> p & 1) == 1) {
                bits |= 1 << kind;
            }
        }
        return bits;
    }

    // ---- hail, years

    public int hail(int p, int n, int x, int part) {
        if (!now.isWooer(p) || n < 0 || n > HAIL_DAYS || x < 0 || x > 10 || part < 0 || part > 1) {
            return BAD;
        }
        startLevels();
        int above = hailFrom(levels, 0, n, p, x);
        int below = 1;
        for (int day = 0; day < n; day++) {
            below *= 10;
        }
        int shared = commonPart(below, above);
        if (shared == 0) {
            return BAD;
        }
        return (part == 0 ? above : below) / shared;
    }

    public int year(int z, int n, int what) {
        if (z < 0 || z > 9999 || n < 1 || n > 60 || what < 0 || what > 1) {
            return BAD;
        }
        trial.copy(now);
        for (int k = 0; k < n; k++) {
            trial.befall(draw(z, k));
            trial.spendDay(true);
        }
        return what == 0 ? trial.speakers() : trial.allRight();
    }

    public int keep() {
        if (keeps >= KEEPS) {
            return FULL;
        }
        copyInto(tableAt(stored, keeps));
        keeps++;
        return keeps;
    }

    public int back() {
        if (keeps <= 0) {
            return NO;
        }
        keeps--;
        now.copy(tableAt(stored, keeps));
        undos = 0;
        return keeps;
    }

    public int count(int what) {
        switch (what) {
            case 0: return now.words;
            case 1: return now.wooers;
            case 2: return now.need;
            case 3: return now.days;
            case 4: return now.speakers();
            case 5: return now.allRight();
            case 6: return now.allHad();
            case 7: return heard.count;
            case 8: return undos;
            case 9: return keeps;
            case 10: return text.length;
            default: return BAD;
        }
    }

    // ---- the object's own steps

    private void copyInto(Table table) {
        if (table != null) {
            table.copy(now);
        }
    }

    private void startLevels() {
        copyInto(tableAt(levels, 0));
    }

    private void noteAct() {
        copyInto(tableAt(past, latest));
        latest = (latest + 1) % ACTS;
        undos = Math.min(undos + 1, ACTS);
    }

    private int rightOnceMended(int p, int w) {
        trial.copy(now);
        trial.repair(p, w);
        trial.spend(MEND_DAYS);
        return trial.allRight();
    }

    /** Notes for all two wooers the words by which they differ, as bits; answers how many pairs there are. */
    private int comparePairs() {
        int many = 0;
        for (int p = 0; p < now.wooers; p++) {
            for (int q = p + 1; q < now.wooers; q++) {
                put(pairs, many, now.differing(p, q));
                many++;
            }
        }
        return many;
    }

    private boolean partsAll(int set, int many) {
        for (int pair = 0; pair < many; pair++) {
            if ((at(pairs, pair) & set) == 0) {
                return false;
            }
        }
        return true;
    }

    /**
     * The best end of all rows that go on from this level: 512 times how many are right, and 511 less the row
     * (its words as figures to the base 8), so that the greatest is the most right and, of several, the first.
     */
    private static int bestFrom(Table[] levels, int level, int last, int p, int row) {
        Table here = tableAt(levels, level);
        if (here == null) {
            return 0;
        }
        if (level >= last) {
            return ROWS_OF_THREE * here.rightOf(p) + ROWS_OF_THREE - 1 - row;
        }
        Table next = tableAt(levels, level + 1);
        if (next == null) {
            return 0;
        }
        int best = 0;
        for (int w = 0; w < here.words; w++) {
            next.copy(here);
            next.teach(p, w);
            next.spendDay(true);
            best = Math.max(best, bestFrom(levels, level + 1, last, p, WORDS * row + w));
        }
        return best;
    }

    /** Of ten times ten .. equal cases of the days that are left: in how many the wooer is a speaker at the end. */
    private static int hailFrom(Table[] levels, int level, int last, int p, int x) {
        Table here = tableAt(levels, level);
        if (here == null) {
            return 0;
        }
        if (level >= last) {
            return here.isSpeaker(p) ? 1 : 0;
        }
        Table next = tableAt(levels, level + 1);
        if (next == null) {
            return 0;
        }
        int cases = 0;
        if (x > 0) {
            next.copy(here);
            next.spendDay(false);
            cases += x * hailFrom(levels, level + 1, last, p, x);
        }
        if (x < 10) {
            next.copy(here);
            next.spendDay(true);
            cases += (10 - x) * hailFrom(levels, level + 1, last, p, x);
        }
        return cases;
    }

    private static int draw(int z, int k) {
        long x = 7919L * z + 6151L * k + 1L;
        return (int) (x * x % 65521L);
    }

    /** The greatest common divisor; the bound on the steps stands far above what two ints can need. */
    private static int commonPart(int a, int b) {
        for (int step = 0; step < 100 && b != 0; step++) {
            int rest = a % b;
            a = b;
            b = rest;
        }
        return a;
    }

    private static Table[] tables(int many) {
        Table[] rows = new Table[Math.max(many, 0)];
        for (int i = 0; i < rows.length; i++) {
            rows[i] = new Table();
        }
        return rows;
    }

    private static Table tableAt(Table[] rows, int i) {
        return rows != null && i >= 0 && i < rows.length ? rows[i] : null;
    }

    private static int at(int[] row, int i) {
        return row != null && i >= 0 && i < row.length ? row[i] : 0;
    }

    private static void put(int[] row, int i, int value) {
        if (row != null && i >= 0 && i < row.length) {
            row[i] = value;
        }
    }

    private static void copyRow(int[] from, int[] to) {
        if (from != null && to != null) {
            System.arraycopy(from, 0, to, 0, Math.min(from.length, to.length));
        }
    }

    private static void swap(int[] row, int i, int j) {
        int was = at(row, i);
        put(row, i, at(row, j));
        put(row, j, was);
    }

    /** How it stands: the tongue, and round the table the wooers with their words. */
    private static final class Table {
        final int[] sounds;
        final int[] kind;
        final int[] memory;
        /** The words that each wooer has, as bits; how and how old is in way and age, which else mean nothing. */
        final int[] has;
        final int[] right;
        final int[] way;
        final int[] age;
        final int[] told;
        int words;
        int wooers;
        int need;
        int days;

        Table() {
            sounds = new int[WORDS];
            kind = new int[WOOERS];
            memory = new int[WOOERS];
            has = new int[WOOERS];
            right = new int[WOOERS];
            way = new int[WOOERS * WORDS];
            age = new int[WOOERS * WORDS];
            told = new int[WOOERS];
            words = 0;
            wooers = 0;
            need = NEED_UNTOLD;
            days = 0;
        }

        void clear() {
            words = 0;
            wooers = 0;
            need = NEED_UNTOLD;
            days = 0;
        }

        void copy(Table from) {
            if (from == null) {
                return;
            }
            copyRow(from.sounds, sounds);
            copyRow(from.kind, kind);
            copyRow(from.memory, memory);
            copyRow(from.has, has);
            copyRow(from.right, right);
            copyRow(from.way, way);
            copyRow(from.age, age);
            words = from.words;
            wooers = from.wooers;
            need = from.need;
            days = from.days;
        }

        boolean isWord(int w) {
            return w >= 0 && w < words;
        }

        boolean isWooer(int p) {
            return p >= 0 && p < wooers;
        }

        boolean holds(int p, int w) {
            return (at(has, p) >> w & 1) == 1;
        }

        boolean isRight(int p, int w) {
            return (at(right, p) >> w & 1) == 1;
        }

        int wayOf(int p, int w) {
            return at(way, WORDS * p + w);
        }

        int ageOf(int p, int w) {
            return at(age, WORDS * p + w);
        }

        int rightOf(int p) {
            return Integer.bitCount(at(right, p));
        }

        boolean isSpeaker(int p) {
            return rightOf(p) >= need;
        }

        int speakers() {
            int many = 0;
            for (int p = 0; p < wooers; p++) {
                if (isSpeaker(p)) {
                    many++;
                }
            }
            return many;
        }

        int allRight() {
            int many = 0;
            for (int p = 0; p < wooers; p++) {
                many += rightOf(p);
            }
            return many;
        }

        int allHad() {
            int many = 0;
            for (int p = 0; p < wooers; p++) {
                many += Integer.bitCount(at(has, p));
            }
            return many;
        }

        /** Seats one more wooer, who has no word; answers which he is. */
        int seat(int hisKind, int hisMemory) {
            int p = wooers;
            put(kind, p, hisKind);
            put(memory, p, hisMemory);
            put(has, p, 0);
            put(right, p, 0);
            wooers++;
            return p;
        }

        void give(int p, int w, int sound) {
            int bit = 1 << w;
            put(has, p, at(has, p) | bit);
            put(right, p, sound == at(sounds, w) ? at(right, p) | bit : at(right, p) & ~bit);
            put(way, WORDS * p + w, sound);
            put(age, WORDS * p + w, 0);
        }

        void drop(int p, int w) {
            int bit = 1 << w;
            put(has, p, at(has, p) & ~bit);
            put(right, p, at(right, p) & ~bit);
        }

        int asHeardBy(int p, int sound) {
            return at(kind, p) == DEAF && sound % 2 == 1 ? (sound + 1) % 10 : sound;
        }

        void teach(int p, int w) {
            if (at(kind, p) == PROUD && holds(p, w)) {
                give(p, w, wayOf(p, w));
                return;
            }
            give(p, w, asHeardBy(p, at(sounds, w)));
            int next = w + 1 < words ? w + 1 : 0;
            if (at(kind, p) == QUICK && !holds(p, next)) {
                give(p, next, at(sounds, next));
            }
        }

        boolean canRepair(int p, int w) {
            return holds(p, w) && !isRight(p, w);
        }

        void repair(int p, int w) {
            give(p, w, at(sounds, w));
        }

        void swapSeats(int p, int q) {
            swap(kind, p, q);
            swap(memory, p, q);
            swap(has, p, q);
            swap(right, p, q);
            for (int w = 0; w < words; w++) {
                swap(way, WORDS * p + w, WORDS * q + w);
                swap(age, WORDS * p + w, WORDS * q + w);
            }
        }

        void spend(int n) {
            for (int day = 0; day < n; day++) {
                spendDay(true);
            }
        }

        /** All is chosen ahead of the day; a word told is new to who hears it, so it grows no older that day. */
        void spendDay(boolean telling) {
            for (int p = 0; p < wooers; p++) {
                put(told, p, telling ? lowest(at(has, p) & ~at(has, nextSeat(p))) : NONE);
            }
            for (int p = 0; p < wooers; p++) {
                growOlder(p, at(told, p));
            }
            for (int p = 0; p < wooers; p++) {
                tellNext(p, at(told, p));
            }
            days++;
        }

        int nextSeat(int p) {
            return p + 1 < wooers ? p + 1 : 0;
        }

        int lowest(int bits) {
            return bits == 0 ? NONE : Integer.bitCount((bits & -bits) - 1);
        }

        void growOlder(int p, int toldWord) {
            int most = at(memory, p);
            for (int w = 0; w < words; w++) {
                if (holds(p, w)) {
                    int old = w == toldWord ? 0 : ageOf(p, w) + 1;
                    put(age, WORDS * p + w, old);
                    if (old >= most) {
                        drop(p, w);
                    }
                }
            }
        }

        void tellNext(int p, int w) {
            if (w >= 0) {
                int next = nextSeat(p);
                give(next, w, asHeardBy(next, wayOf(p, w)));
            }
        }

        /** What a draw brings ahead of a day of a year. */
        void befall(int draw) {
            if (wooers <= 0 || words <= 0) {
                return;
            }
            int p = draw / 8 % wooers;
            int w = draw / 64 % words;
            int q = draw / 64 % wooers;
            int lot = draw % 8;
            if (lot <= 3) {
                teach(p, w);
            } else if (lot == 4 && canRepair(p, w)) {
                repair(p, w);
            } else if (lot == 5 && p != q) {
                swapSeats(p, q);
            }
        }

        /** The words by which two are not alike, as bits. */
        int differing(int p, int q) {
            int bits = at(has, p) ^ at(has, q);
            int both = at(has, p) & at(has, q);
            for (int w = 0; w < words; w++) {
                if ((both >> w & 1) == 1 && wayOf(p, w) != wayOf(q, w)) {
                    bits |= 1 << w;
                }
            }
            return bits;
        }

        int holders(int w, int sound) {
            int many = 0;
            for (int p = 0; p < wooers; p++) {
                if (holds(p, w) && wayOf(p, w) == sound) {
                    many++;
                }
            }
            return many;
        }

        /** Whether the tongue is another one by this word: more have it in one wrong way than right. */
        boolean isAnother(int w) {
            int rights = holders(w, at(sounds, w));
            for (int p = 0; p < wooers; p++) {
                if (canRepair(p, w) && holders(w, wayOf(p, w)) > rights) {
                    return true;
                }
            }
            return false;
        }

        /** The wooers who have the word as this sound (10: have it not), as bits. */
        int having(int w, int sound) {
            int bits = 0;
            for (int p = 0; p < wooers; p++) {
                boolean so = sound == 10 ? !holds(p, w) : holds(p, w) && wayOf(p, w) == sound;
                if (so) {
                    bits |= 1 << p;
                }
            }
            return bits;
        }
    }

    /** What was heard of the one wooer: the word, the sound and behind how many days. */
    private static final class Hearsay {
        final int[] word;
        final int[] sound;
        final int[] day;
        int count;

        Hearsay() {
            word = new int[HEARINGS];
            sound = new int[HEARINGS];
            day = new int[HEARINGS];
            count = 0;
        }

        boolean add(int w, int v, int n) {
            if (count >= HEARINGS) {
                return false;
            }
            put(word, count, w);
            put(sound, count, v);
            put(day, count, n);
            count++;
            return true;
        }

        int lastDay() {
            int last = 0;
            for (int i = 0; i < count; i++) {
                last = Math.max(last, at(day, i));
            }
            return last;
        }

        /** The wooers of whom all is so, as bits; the days go by on the table that is given. */
        int fitting(Table table) {
            if (table == null) {
                return 0;
            }
            int bits = (1 << table.wooers) - 1;
            int last = lastDay();
            for (int today = 0; today <= last; today++) {
                for (int i = 0; i < count; i++) {
                    if (at(day, i) == today) {
                        bits &= table.having(at(word, i), at(sound, i));
                    }
                }
                table.spendDay(true);
            }
            return bits;
        }
    }

    /** The text, and how it is read: item by item, up to the first that is not so. */
    private static final class Text {
        final int[] letters;
        int length;
        int place;
        boolean pastTongue;

        Text() {
            letters = new int[LETTERS];
            length = 0;
            place = 0;
            pastTongue = false;
        }

        boolean append(int letter) {
            if (length >= LETTERS) {
                return false;
            }
            put(letters, length, letter);
            length++;
            return true;
        }

        void take(String script) {
            length = 0;
            if (script != null) {
                for (int i = 0; i < script.length(); i++) {
                    append(script.charAt(i));
                }
            }
        }

        /** Fills the table with what the text tells; answers where the first item that is not so begins, or NONE. */
        int readInto(Table table) {
            if (table == null) {
                return 0;
            }
            table.clear();
            place = 0;
            pastTongue = false;
            for (int item = 0; item < LETTERS && place < length; item++) {
                int start = place;
                if (!readItem(table)) {
                    return start;
                }
            }
            return NONE;
        }

        boolean readItem(Table table) {
            switch (next()) {
                case 't': return readTongue(table);
                case 'w': return readWooer(table);
                case 's': return readNeed(table);
                default: return false;
            }
        }

        boolean readTongue(Table table) {
            if (pastTongue) {
                return false;
            }
            for (int w = 0; w <= WORDS; w++) {
                int sign = next();
                if (sign == ';') {
                    return w > 0;
                }
                if (!isFigure(sign) || w == WORDS) {
                    return false;
                }
                put(table.sounds, w, sign - '0');
                table.words = w + 1;
            }
            return false;
        }

        boolean readWooer(Table table) {
            pastTongue = true;
            if (table.words == 0 || table.wooers >= WOOERS) {
                return false;
            }
            int kind = number(',');
            if (kind < 0 || kind > PROUD) {
                return false;
            }
            int memory = number(',');
            if (memory < 1 || memory > 30) {
                return false;
            }
            int p = table.seat(kind, memory);
            for (int w = 0; w < table.words; w++) {
                int sign = next();
                if (isFigure(sign)) {
                    table.give(p, w, sign - '0');
                } else if (sign != '-') {
                    return false;
                }
            }
            return next() == ';';
        }

        boolean readNeed(Table table) {
            pastTongue = true;
            int need = number(';');
            if (need < 1 || need > WORDS) {
                return false;
            }
            table.need = need;
            return true;
        }

        /** One or two figures and the sign behind them; BAD if it is not so. */
        int number(int end) {
            int first = next();
            if (!isFigure(first)) {
                return BAD;
            }
            int second = next();
            if (second == end) {
                return first - '0';
            }
            if (!isFigure(second) || next() != end) {
                return BAD;
            }
            return 10 * (first - '0') + second - '0';
        }

        boolean isFigure(int sign) {
            return sign >= '0' && sign <= '9';
        }

        /** The sign at the place, which moves on; 0 behind the end. */
        int next() {
            if (place >= length) {
                return 0;
            }
            int sign = at(letters, place);
            place++;
            return sign;
        }
    }
}
