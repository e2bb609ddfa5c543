import java.util.Arrays;
import java.util.Random;

/** Long runs of drawn calls, the class and the slow reading of the document side by side. */
public final class RandomRunsTest {
    private static final int RUNS = 900;
    private static final int CALLS = 512;
    /** Calls that a text laid takes beside its own letters: wipe, fault, lay, and letters that spoil it. */
    private static final int MOST_AROUND = 3 + 6;
    private static final String[] NAMES = {"write", "wipe", "fault", "lay", "sound", "wooer", "word", "lesson", "pass",
        "mend", "change", "undo", "behind", "made", "best", "mends", "two", "tests", "other", "hear", "forget", "which",
        "kinds", "hail", "year", "keep", "back", "count"};
    /** How often each call is drawn, in the order of the names. */
    private static final int[] OFTEN = {3, 0, 1, 1, 1, 8, 12, 12, 8, 8, 5, 6, 6, 3, 1, 2, 2, 2, 2, 8, 1, 4, 4, 1, 3, 2,
        2, 8};
    private static final int[] ODD = {-1, -2, -3, -4, 5, 8, 9, 10, 11, 61, 200, 256, 1 << 16, 999999999,
        Integer.MAX_VALUE, Integer.MIN_VALUE, Integer.MIN_VALUE + 1, Integer.MAX_VALUE - 1};

    private final Check check = new Check();
    private final Random random;
    private LastTongue quick;
    private SlowTongue slow;

    private RandomRunsTest(long seed) {
        random = new Random(seed);
    }

    public static void main(String[] args) {
        RandomRunsTest test = new RandomRunsTest(20261119L);
        for (int run = 0; run < RUNS; run++) {
            test.run(run);
        }
        test.check.close("RandomRunsTest");
    }

    private void run(int run) {
        quick = new LastTongue();
        slow = new SlowTongue();
        int calls = 0;
        while (calls < CALLS) {
            String text = run % 7 != 0 && (calls == 0 || random.nextInt(150) == 0) ? drawnText() : "";
            if (text.isEmpty() || calls + text.length() + MOST_AROUND > CALLS) {
                drawnCall(run);
                calls++;
            } else {
                calls += layAnew(run, random.nextInt(4) == 0 ? spoilt(text) : text);
            }
        }
    }

    private int layAnew(int run, String text) {
        call(run, "wipe");
        for (int i = 0; i < text.length(); i++) {
            call(run, "write", text.charAt(i));
        }
        call(run, "fault");
        call(run, "lay");
        return text.length() + 3;
    }

    private String drawnText() {
        StringBuilder text = new StringBuilder();
        int words = 1 + random.nextInt(8);
        if (random.nextInt(5) == 0) {
            text.append("t").append(random.nextInt(1000)).append(";");
        }
        text.append("t");
        StringBuilder sounds = new StringBuilder();
        for (int w = 0; w < words; w++) {
            sounds.append(random.nextInt(10));
        }
        text.append(sounds).append(";");
        int wooers = 1 + random.nextInt(5);
        for (int p = 0; p < wooers; p++) {
            if (random.nextInt(6) == 0) {
                text.append("s").append(1 + random.nextInt(8)).append(";");
            }
            int memory = 1 + random.nextInt(random.nextInt(3) == 0 ? 30 : 6);
            text.append(random.nextInt(9) == 0 ? "w0" : "w").append(random.nextInt(4)).append(",");
            text.append(memory < 10 && random.nextInt(5) == 0 ? "0" : "").append(memory).append(",");
            for (int w = 0; w < words; w++) {
                int lot = random.nextInt(5);
                text.append(lot < 2 ? "-" : lot < 4 ? "" + sounds.charAt(w) : "" + random.nextInt(10));
            }
            text.append(";");
        }
        if (random.nextInt(3) != 0) {
            text.append(random.nextInt(5) == 0 ? "s0" : "s").append(1 + random.nextInt(words)).append(";");
        }
        return text.toString();
    }

    private String spoilt(String text) {
        StringBuilder letters = new StringBuilder(text);
        int place = random.nextInt(letters.length());
        String signs = "tws,;-0123456789 ";
        switch (random.nextInt(4)) {
            case 0: letters.deleteCharAt(place); break;
            case 1: letters.insert(place, signs.charAt(random.nextInt(signs.length()))); break;
            case 2: letters.setCharAt(place, signs.charAt(random.nextInt(signs.length()))); break;
            default: letters.append(new String[] {"t1;", "w0,3,-;", "s9;", "s", "w4,1,"}[random.nextInt(5)]); break;
        }
        return letters.toString();
    }

    private void drawnCall(int run) {
        int sum = 0;
        for (int often : OFTEN) {
            sum += often;
        }
        int lot = random.nextInt(sum);
        int chosen = 0;
        while (lot >= OFTEN[chosen]) {
            lot -= OFTEN[chosen];
            chosen++;
        }
        call(run, NAMES[chosen], arguments(NAMES[chosen]));
    }

    private int[] arguments(String name) {
        switch (name) {
            case "write": return drawn(32, 126);
            case "sound": return drawn(0, words());
            case "wooer": return drawn(0, wooers(), 0, 4);
            case "word": return drawn(0, wooers(), 0, words(), 0, 1);
            case "lesson": case "mend": return drawn(0, wooers(), 0, words());
            case "pass": return random.nextInt(3) == 0 ? drawn(1, 24) : drawn(1, 3);
            case "change": return drawn(0, wooers(), 0, wooers());
            case "behind": return drawn(0, 40, 0, wooers(), -1, words());
            case "made": case "kinds": return drawn(0, wooers());
            case "best": return drawn(0, wooers(), 1, 3, -1, 2);
            case "mends": case "two": case "tests": return drawn(0, 1);
            case "hear": return likelyHearing();
            case "hail": return drawn(0, wooers(), 0, 8, 0, 10, 0, 1);
            case "year": return drawn(0, 9999, 1, 60, 0, 1);
            case "count": return drawn(0, 10);
            default: return new int[0];
        }
    }

    /** Mostly something that is so of somebody, else nobody would ever be left. */
    private int[] likelyHearing() {
        int[] drawn = drawn(0, words(), 0, 10, 0, 20);
        if (random.nextInt(4) != 0) {
            int way = slow.behind(drawn[2], random.nextInt(wooers() + 1), drawn[0]);
            drawn[1] = way == SlowTongue.NONE ? 10 : way;
        }
        return drawn;
    }

    private int words() {
        return slow.count(0) - 1;
    }

    private int wooers() {
        return slow.count(1) - 1;
    }

    private int[] drawn(int... bounds) {
        int[] drawn = new int[bounds.length / 2];
        for (int i = 0; i < drawn.length; i++) {
            drawn[i] = bounds[2 * i] + random.nextInt(bounds[2 * i + 1] - bounds[2 * i] + 1);
        }
        if (random.nextInt(25) == 0) {
            drawn[random.nextInt(drawn.length)] = ODD[random.nextInt(ODD.length)];
        }
        return drawn;
    }

    private void call(int run, String name, int... a) {
        int got = Picture.call(quick, name, a);
        int want = Picture.call(slow, name, a);
        check.due("run " + run + ": " + name + Arrays.toString(a), got, want);
    }
}
