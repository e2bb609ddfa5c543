import java.math.BigInteger;
import java.util.ArrayDeque;
import java.util.ArrayList;
import java.util.Deque;
import java.util.List;
import java.util.Map;
import java.util.TreeMap;
import java.util.TreeSet;
import java.util.regex.Matcher;
import java.util.regex.Pattern;

/**
 * The document once more, written down sentence by sentence with the Java library and without a thought for speed,
 * so that the class can be held against something that shares none of its code.
 */
final class SlowTongue {
    static final int BAD = -1, NO = -2, FULL = -3, NONE = -4;

    static final class Had {
        final int way;
        final int age;

        Had(int way, int age) {
            this.way = way;
            this.age = age;
        }
    }

    static final class Man {
        int kind;
        int memory;
        TreeMap<Integer, Had> words = new TreeMap<>();

        Man copy() {
            Man man = new Man();
            man.kind = kind;
            man.memory = memory;
            man.words.putAll(words);
            return man;
        }

        int hears(int sound) {
            return kind == 1 && sound % 2 != 0 ? (sound == 9 ? 0 : sound + 1) : sound;
        }
    }

    static final class World {
        int[] sounds = {};
        int need = 3;
        int days = 0;
        List<Man> men = new ArrayList<>();

        World copy() {
            World other = new World();
            other.sounds = sounds;
            other.need = need;
            other.days = days;
            for (Man man : men) {
                other.men.add(man.copy());
            }
            return other;
        }

        boolean right(int p, int w) {
            Had had = men.get(p).words.get(w);
            return had != null && had.way == sounds[w];
        }

        int rights(int p) {
            int many = 0;
            for (int w = 0; w < sounds.length; w++) {
                many += right(p, w) ? 1 : 0;
            }
            return many;
        }

        int rights() {
            int many = 0;
            for (int p = 0; p < men.size(); p++) {
                many += rights(p);
            }
            return many;
        }

        boolean speaker(int p) {
            return rights(p) >= need;
        }

        int speakers() {
            int many = 0;
            for (int p = 0; p < men.size(); p++) {
                many += speaker(p) ? 1 : 0;
            }
            return many;
        }

        String way(int p, int w) {
            Had had = men.get(p).words.get(w);
            return had == null ? "-" : "" + had.way;
        }

        void lesson(int p, int w) {
            Man man = men.get(p);
            int sound = man.hears(sounds[w]);
            if (man.kind == 3 && man.words.containsKey(w)) {
                sound = man.words.get(w).way;
            }
            man.words.put(w, new Had(sound, 0));
            int next = (w + 1) % sounds.length;
            if (man.kind == 2) {
                man.words.putIfAbsent(next, new Had(sounds[next], 0));
            }
        }

        boolean mend(int p, int w) {
            if (!men.get(p).words.containsKey(w) || right(p, w)) {
                return false;
            }
            men.get(p).words.put(w, new Had(sounds[w], 0));
            return true;
        }

        void change(int p, int q) {
            Man man = men.get(p);
            men.set(p, men.get(q));
            men.set(q, man);
        }

        void day(boolean telling) {
            World was = copy();
            for (int p = 0; p < men.size(); p++) {
                int next = (p + 1) % men.size();
                int told = -1;
                for (int w = sounds.length - 1; w >= 0 && telling && next != p; w--) {
                    if (was.men.get(p).words.containsKey(w) && !was.men.get(next).words.containsKey(w)) {
                        told = w;
                    }
                }
                if (told >= 0) {
                    int said = was.men.get(p).words.get(told).way;
                    men.get(next).words.put(told, new Had(men.get(next).hears(said), 0));
                }
                for (Map.Entry<Integer, Had> one : was.men.get(p).words.entrySet()) {
                    int w = one.getKey();
                    int age = one.getValue().age + 1;
                    if (w == told) {
                        men.get(p).words.put(w, new Had(one.getValue().way, 0));
                    } else if (age == men.get(p).memory) {
                        men.get(p).words.remove(w);
                    } else {
                        men.get(p).words.put(w, new Had(one.getValue().way, age));
                    }
                }
            }
            days++;
        }

        World after(int n) {
            World other = copy();
            for (int i = 0; i < n; i++) {
                other.day(true);
            }
            return other;
        }
    }

    private static final Pattern TONGUE = Pattern.compile("t([0-9]{1,8});");
    private static final Pattern WOOER = Pattern.compile("w([0-9]{1,2}),([0-9]{1,2}),([-0-9]+);");
    private static final Pattern SPEAKER = Pattern.compile("s([0-9]{1,2});");

    private String text = "";
    private World world;
    private final Deque<World> past = new ArrayDeque<>();
    private final Deque<World> kept = new ArrayDeque<>();
    private final List<int[]> heard = new ArrayList<>();

    SlowTongue() {
        world = new World();
        read("t37104925;w0,5,3---4---;w1,9,-7------;w2,3,---1-9--;w3,12,37-6----;w0,8,--------;s4;", world);
    }

    private static int read(String script, World into) {
        int at = 0;
        boolean onlyTongues = true;
        while (at < script.length()) {
            Matcher tongue = TONGUE.matcher(script).region(at, script.length());
            Matcher wooer = WOOER.matcher(script).region(at, script.length());
            Matcher speaker = SPEAKER.matcher(script).region(at, script.length());
            if (tongue.lookingAt() && onlyTongues) {
                into.sounds = new int[tongue.group(1).length()];
                for (int w = 0; w < into.sounds.length; w++) {
                    into.sounds[w] = tongue.group(1).charAt(w) - '0';
                }
                at = tongue.end();
            } else if (wooer.lookingAt() && readWooer(wooer, into)) {
                onlyTongues = false;
                at = wooer.end();
            } else if (speaker.lookingAt() && within(Integer.parseInt(speaker.group(1)), 1, 8)) {
                onlyTongues = false;
                into.need = Integer.parseInt(speaker.group(1));
                at = speaker.end();
            } else {
                return at;
            }
        }
        return NONE;
    }

    private static boolean readWooer(Matcher item, World into) {
        Man man = new Man();
        man.kind = Integer.parseInt(item.group(1));
        man.memory = Integer.parseInt(item.group(2));
        String row = item.group(3);
        if (!within(man.kind, 0, 3) || !within(man.memory, 1, 30) || into.sounds.length == 0
                || row.length() != into.sounds.length || into.men.size() == 5) {
            return false;
        }
        for (int w = 0; w < row.length(); w++) {
            if (row.charAt(w) != '-') {
                man.words.put(w, new Had(row.charAt(w) - '0', 0));
            }
        }
        into.men.add(man);
        return true;
    }

    private static boolean within(int number, int low, int high) {
        return number >= low && number <= high;
    }

    private boolean man(int p) {
        return within(p, 0, world.men.size() - 1);
    }

    private boolean known(int w) {
        return within(w, 0, world.sounds.length - 1);
    }

    private void act() {
        past.push(world.copy());
        if (past.size() > 8) {
            past.removeLast();
        }
    }

    int write(int letter) {
        if (!within(letter, 32, 126)) {
            return BAD;
        }
        if (text.length() == 200) {
            return FULL;
        }
        text += (char) letter;
        return text.length();
    }

    int wipe() {
        int was = text.length();
        text = "";
        return was;
    }

    int fault() {
        return read(text, new World());
    }

    int lay() {
        World read = new World();
        if (read(text, read) != NONE || read.men.isEmpty()) {
            return NO;
        }
        world = read;
        past.clear();
        kept.clear();
        heard.clear();
        return world.men.size();
    }

    int sound(int w) {
        return known(w) ? world.sounds[w] : BAD;
    }

    int wooer(int p, int what) {
        if (!man(p) || !within(what, 0, 4)) {
            return BAD;
        }
        int has = 0;
        int right = 0;
        for (int w : world.men.get(p).words.keySet()) {
            has += 1 << w;
            right += world.right(p, w) ? 1 << w : 0;
        }
        return new int[] {world.men.get(p).kind, world.men.get(p).memory, has, right, world.speaker(p) ? 1 : 0}[what];
    }

    int word(int p, int w, int what) {
        if (!man(p) || !known(w) || !within(what, 0, 1)) {
            return BAD;
        }
        Had had = world.men.get(p).words.get(w);
        return had == null ? NONE : what == 0 ? had.way : had.age;
    }

    int lesson(int p, int w) {
        if (!man(p) || !known(w)) {
            return BAD;
        }
        act();
        world.lesson(p, w);
        return word(p, w, 0);
    }

    int pass(int n) {
        if (!within(n, 1, 24)) {
            return BAD;
        }
        if (world.days + n > 999) {
            return NO;
        }
        act();
        world = world.after(n);
        return world.speakers();
    }

    int mend(int p, int w) {
        if (!man(p) || !known(w)) {
            return BAD;
        }
        int was = word(p, w, 0);
        if (was == NONE || world.right(p, w)) {
            return NO;
        }
        act();
        world.mend(p, w);
        return was;
    }

    int change(int p, int q) {
        if (!man(p) || !man(q) || p == q) {
            return BAD;
        }
        act();
        world.change(p, q);
        return world.men.get(p).kind;
    }

    int undo() {
        if (past.isEmpty()) {
            return NO;
        }
        world = past.pop();
        return past.size();
    }

    int behind(int n, int p, int w) {
        if (!within(n, 0, 40) || !man(p) || w != -1 && !known(w)) {
            return BAD;
        }
        World then = world.after(n);
        if (w == -1) {
            return then.rights(p);
        }
        Had had = then.men.get(p).words.get(w);
        return had == null ? NONE : had.way;
    }

    int made(int p) {
        if (!man(p)) {
            return BAD;
        }
        for (int n = 0; n <= 60; n++) {
            if (world.after(n).speaker(p)) {
                return n;
            }
        }
        return NONE;
    }

    int best(int p, int n, int k) {
        if (!man(p) || !within(n, 1, 3) || !within(k, -1, 2)) {
            return BAD;
        }
        int[] bestRow = null;
        int most = -1;
        List<int[]> rows = rowsOf(n, world.sounds.length);
        for (int[] row : rows) {
            World then = world.copy();
            for (int w : row) {
                then.lesson(p, w);
                then.day(true);
            }
            if (then.rights(p) > most) {
                most = then.rights(p);
                bestRow = row;
            }
        }
        return k == -1 ? most : k < n ? bestRow[k] : NONE;
    }

    private static List<int[]> rowsOf(int n, int words) {
        List<int[]> rows = new ArrayList<>();
        if (n == 0) {
            rows.add(new int[0]);
            return rows;
        }
        for (int[] head : rowsOf(n - 1, words)) {
            for (int w = 0; w < words; w++) {
                int[] row = java.util.Arrays.copyOf(head, n);
                row[n - 1] = w;
                rows.add(row);
            }
        }
        return rows;
    }

    int mends(int what) {
        if (!within(what, 0, 1)) {
            return BAD;
        }
        int[] found = {NONE, NONE};
        for (int p = 0; p < world.men.size(); p++) {
            for (int w = 0; w < world.sounds.length; w++) {
                World then = world.copy();
                if (then.mend(p, w)) {
                    int many = then.after(5).rights();
                    if (found[1] == NONE || many > found[1]) {
                        found = new int[] {10 * p + w, many};
                    }
                }
            }
        }
        return found[what];
    }

    int two(int what) {
        if (!within(what, 0, 1)) {
            return BAD;
        }
        int[] found = {NONE, NONE};
        for (int p = 0; p < world.men.size(); p++) {
            for (int q = p + 1; q < world.men.size(); q++) {
                int many = 0;
                for (int w = 0; w < world.sounds.length; w++) {
                    many += world.right(p, w) || world.right(q, w) ? 1 : 0;
                }
                if (found[1] == NONE || many > found[1]) {
                    found = new int[] {10 * p + q, many};
                }
            }
        }
        return found[what];
    }

    int tests(int what) {
        if (!within(what, 0, 1)) {
            return BAD;
        }
        for (int size = 0; size <= world.sounds.length; size++) {
            for (int set = 0; set < 1 << world.sounds.length; set++) {
                if (Integer.bitCount(set) == size && parts(set)) {
                    return what == 0 ? size : set;
                }
            }
        }
        return NONE;
    }

    private boolean parts(int set) {
        TreeSet<String> seen = new TreeSet<>();
        for (int p = 0; p < world.men.size(); p++) {
            String said = "";
            for (int w = 0; w < world.sounds.length; w++) {
                said += (set & 1 << w) != 0 ? world.way(p, w) : "";
            }
            seen.add(said);
        }
        return seen.size() == world.men.size();
    }

    int other() {
        int bits = 0;
        for (int w = 0; w < world.sounds.length; w++) {
            int[] many = new int[10];
            for (Man man : world.men) {
                if (man.words.containsKey(w)) {
                    many[man.words.get(w).way]++;
                }
            }
            boolean another = false;
            for (int v = 0; v < 10; v++) {
                another |= v != world.sounds[w] && many[v] > many[world.sounds[w]];
            }
            bits += another ? 1 << w : 0;
        }
        return bits;
    }

    int hear(int w, int v, int n) {
        if (!known(w) || !within(v, 0, 10) || !within(n, 0, 20)) {
            return BAD;
        }
        if (heard.size() == 6) {
            return FULL;
        }
        heard.add(new int[] {w, v, n});
        return heard.size();
    }

    int forget() {
        int were = heard.size();
        heard.clear();
        return were;
    }

    private boolean fits(World from, int p) {
        for (int[] one : heard) {
            String said = from.after(one[2]).way(p, one[0]);
            if (!said.equals(one[1] == 10 ? "-" : "" + one[1])) {
                return false;
            }
        }
        return true;
    }

    int which() {
        int bits = 0;
        for (int p = 0; p < world.men.size(); p++) {
            bits += fits(world, p) ? 1 << p : 0;
        }
        return bits;
    }

    int kinds(int p) {
        if (!man(p)) {
            return BAD;
        }
        int bits = 0;
        for (int kind = 0; kind < 4; kind++) {
            World other = world.copy();
            other.men.get(p).kind = kind;
            bits += fits(other, p) ? 1 << kind : 0;
        }
        return bits;
    }

    int hail(int p, int n, int x, int part) {
        if (!man(p) || !within(n, 0, 8) || !within(x, 0, 10) || !within(part, 0, 1)) {
            return BAD;
        }
        BigInteger above = BigInteger.ZERO;
        for (int days = 0; days < 1 << n; days++) {
            World then = world.copy();
            BigInteger cases = BigInteger.ONE;
            for (int day = 0; day < n; day++) {
                boolean hails = (days >> day) % 2 == 1;
                then.day(!hails);
                cases = cases.multiply(BigInteger.valueOf(hails ? x : 10 - x));
            }
            above = then.speaker(p) ? above.add(cases) : above;
        }
        BigInteger below = BigInteger.TEN.pow(n);
        return (part == 0 ? above : below).divide(above.gcd(below)).intValueExact();
    }

    int year(int z, int n, int what) {
        if (!within(z, 0, 9999) || !within(n, 1, 60) || !within(what, 0, 1)) {
            return BAD;
        }
        World then = world.copy();
        int men = then.men.size();
        for (int k = 0; k < n; k++) {
            BigInteger x = BigInteger.valueOf(7919).multiply(BigInteger.valueOf(z))
                .add(BigInteger.valueOf(6151).multiply(BigInteger.valueOf(k))).add(BigInteger.ONE);
            int draw = x.pow(2).mod(BigInteger.valueOf(65521)).intValueExact();
            int p = draw / 8 % men;
            int lot = draw % 8;
            if (lot < 4) {
                then.lesson(p, draw / 64 % then.sounds.length);
            } else if (lot == 4) {
                then.mend(p, draw / 64 % then.sounds.length);
            } else if (lot == 5) {
                then.change(p, draw / 64 % men);
            }
            then.day(true);
        }
        return what == 0 ? then.speakers() : then.rights();
    }

    int keep() {
        if (kept.size() == 2) {
            return FULL;
        }
        kept.push(world.copy());
        return kept.size();
    }

    int back() {
        if (kept.isEmpty()) {
            return NO;
        }
        world = kept.pop();
        past.clear();
        return kept.size();
    }

    int count(int what) {
        if (!within(what, 0, 10)) {
            return BAD;
        }
        int had = 0;
        for (Man man : world.men) {
            had += man.words.size();
        }
        return new int[] {world.sounds.length, world.men.size(), world.need, world.days, world.speakers(),
            world.rights(), had, heard.size(), past.size(), kept.size(), text.length()}[what];
    }
}
