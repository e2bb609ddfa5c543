import java.util.Arrays;

/**
 * BAD, NO, NONE, FULL: each call that is refused, in that order of several, and that nothing changes then; and that
 * nothing changes by what is only asked.
 */
public final class RefusedTest {
    private static final int BAD = LastTongue.BAD, NO = LastTongue.NO, FULL = LastTongue.FULL, NONE = LastTongue.NONE;
    private static final int LEAST = Integer.MIN_VALUE, MOST = Integer.MAX_VALUE;
    private static final Check check = new Check();

    /** Two wooers, two words; days gone by, all kinds of acts to undo, one kept, two heard, another text than laid. */
    private static final Picture.Steps BUSY = x -> {
        Check.lay(x, "t19;w0,9,5-;w1,14,--;s1;");
        x.pass(2);
        x.keep();
        x.lesson(1, 1);
        x.hear(1, 10, 3);
        x.pass(3);
        x.mend(0, 0);
        x.change(0, 1);
        x.hear(0, 1, 0);
        Check.write(x, "t3;w2,9,3;s2;");
    };
    private static final Picture.Steps ALONE = x -> Check.lay(x, "t5;w0,9,-;");
    private static final Picture.Steps NEW = x -> { };

    public static void main(String[] args) {
        numbersThatAreNone(NEW, 8, 5);
        numbersThatAreNone(BUSY, 2, 2);
        numbersThatAreNone(ALONE, 1, 1);
        alike();
        askedOnly();
        badAheadOfAll();
        notAsThingsStand();
        thereIsNone();
        full();
        check.close("RefusedTest");
    }

    /** The call answers what is due, and all that can be seen stays as it was. */
    private static void stays(Picture.Steps before, String was, int due, String name, int... numbers) {
        String call = name + Arrays.toString(numbers);
        check.due(call, Picture.call(Picture.behind(before), name, numbers), due);
        check.same(call + ", then", Picture.of(x -> {
            before.on(x);
            Picture.call(x, name, numbers);
        }), was);
    }

    private static void stays(Picture.Steps before, int due, String name, int... numbers) {
        stays(before, Picture.of(before), due, name, numbers);
    }

    private static void numbersThatAreNone(Picture.Steps before, int words, int wooers) {
        check.sentence("BAD: a number is none that is told (WORDS, WOOERS: such as there are).");
        int w = words - 1;
        int p = wooers - 1;
        String was = Picture.of(before);
        bounds(before, was, "write", 32, 126);
        bounds(before, was, "sound", 0, w);
        bounds(before, was, "wooer", 0, p, 0, 4);
        bounds(before, was, "word", 0, p, 0, w, 0, 1);
        bounds(before, was, "lesson", 0, p, 0, w);
        bounds(before, was, "pass", 1, 24);
        bounds(before, was, "mend", 0, p, 0, w);
        bounds(before, was, "behind", 0, 40, 0, p, -1, w);
        bounds(before, was, "made", 0, p);
        bounds(before, was, "best", 0, p, 1, 3, -1, 2);
        bounds(before, was, "mends", 0, 1);
        bounds(before, was, "two", 0, 1);
        bounds(before, was, "tests", 0, 1);
        bounds(before, was, "hear", 0, w, 0, 10, 0, 20);
        bounds(before, was, "kinds", 0, p);
        bounds(before, was, "hail", 0, p, 0, 8, 0, 10, 0, 1);
        bounds(before, was, "year", 0, 9999, 1, 60, 0, 1);
        bounds(before, was, "count", 0, 10);
        if (wooers > 1) {
            bounds(before, was, "change", 0, p, 0, p);
        }
    }

    /** The numbers come in twos, the lowest and the highest in each place: all of these are told, none outside is. */
    private static void bounds(Picture.Steps before, String was, String name, int... bounds) {
        int places = bounds.length / 2;
        for (int corner = 0; corner < 1 << places; corner++) {
            int[] numbers = new int[places];
            for (int i = 0; i < places; i++) {
                numbers[i] = bounds[2 * i + (corner >> i & 1)];
            }
            if (!name.equals("change") || numbers[0] != numbers[1]) {
                int answer = Picture.call(Picture.behind(before), name, numbers);
                check.holds(name + Arrays.toString(numbers) + " is not BAD but " + answer, answer != BAD);
            }
            for (int i = 0; i < places; i++) {
                int[] outside = {bounds[2 * i] - 1, bounds[2 * i + 1] + 1, LEAST, MOST};
                for (int none : outside) {
                    int[] one = numbers.clone();
                    one[i] = none;
                    stays(before, was, BAD, name, one);
                }
            }
        }
        int[] all = new int[places];
        Arrays.fill(all, MOST);
        stays(before, was, BAD, name, all);
        Arrays.fill(all, LEAST);
        stays(before, was, BAD, name, all);
    }

    private static void alike() {
        check.sentence("BAD (alike, too).");
        for (int p = -1; p <= 5; p++) {
            stays(NEW, BAD, "change", p, p);
            stays(BUSY, BAD, "change", p, p);
        }
        stays(ALONE, BAD, "change", 0, 0);
        stays(ALONE, BAD, "change", 0, 1);
        stays(ALONE, BAD, "change", 1, 0);
    }

    private static void askedOnly() {
        check.sentence("Nothing else being done");
        int[][] asked = {{0, 0}, {1, 0}, {0, 1}, {1, 1}};
        for (Picture.Steps before : new Picture.Steps[] {NEW, BUSY}) {
            String was = Picture.of(before);
            String[] none = {"fault", "other", "which"};
            for (String name : none) {
                unchanged(before, was, name);
            }
            for (int[] a : asked) {
                unchanged(before, was, "sound", a[0]);
                unchanged(before, was, "wooer", a[0], 4 * a[1]);
                unchanged(before, was, "word", a[0], a[1], 1);
                unchanged(before, was, "behind", 40 * a[0], a[1], -a[0]);
                unchanged(before, was, "made", a[0]);
                unchanged(before, was, "best", a[0], 3 - a[1], 0);
                unchanged(before, was, "mends", a[0]);
                unchanged(before, was, "two", a[0]);
                unchanged(before, was, "tests", a[0]);
                unchanged(before, was, "kinds", a[0]);
                unchanged(before, was, "hail", a[0], 8, 5, a[1]);
                unchanged(before, was, "year", 9999 * a[0], 60, a[1]);
                unchanged(before, was, "count", 10 * a[0]);
            }
        }
    }

    private static void unchanged(Picture.Steps before, String was, String name, int... numbers) {
        check.same(name + Arrays.toString(numbers) + ", then", Picture.of(x -> {
            before.on(x);
            Picture.call(x, name, numbers);
        }), was);
    }

    private static void badAheadOfAll() {
        check.sentence("Of several the first in this order, whatever the order at a call; nothing changes then.");
        stays(x -> page(x, 200), BAD, "write", 31);
        stays(x -> page(x, 200), BAD, "write", 127);
        stays(x -> days(x, 999), BAD, "pass", 25);
        stays(x -> days(x, 999), BAD, "pass", 0);
        stays(ALONE, BAD, "mend", 0, 1);
        stays(ALONE, BAD, "mend", 1, 0);
        stays(ALONE, BAD, "word", 0, 0, 2);
        stays(ALONE, BAD, "word", 0, 0, -1);
        stays(ALONE, BAD, "behind", 41, 0, 0);
        stays(ALONE, BAD, "behind", -1, 0, 0);
        stays(ALONE, BAD, "best", 1, 1, 2);
        stays(ALONE, BAD, "best", 0, 0, 2);
        stays(ALONE, BAD, "best", 0, 1, 3);
        stays(ALONE, BAD, "mends", 2);
        stays(ALONE, BAD, "two", 2);
        stays(x -> Check.lay(x, "t5;w0,9,-;w0,9,-;"), BAD, "tests", 2);
        stays(RefusedTest::sixHeard, BAD, "hear", 8, 0, 0);
        stays(RefusedTest::sixHeard, BAD, "hear", 0, 11, 0);
        stays(RefusedTest::sixHeard, BAD, "hear", 0, 0, 21);
    }

    private static void page(LastTongue x, int letters) {
        String text = "t12345678;w0,9,12345678;" + "s1;".repeat(58) + "s1";
        Check.write(x, text.substring(0, letters));
    }

    private static void days(LastTongue x, int days) {
        for (int left = days; left > 0; left -= 24) {
            x.pass(Math.min(left, 24));
        }
    }

    private static void sixHeard(LastTongue x) {
        for (int i = 0; i < 6; i++) {
            x.hear(i, 10, i);
        }
    }

    private static void notAsThingsStand() {
        check.sentence("NO: not as things stand.");
        String[] notLaid = {"", "t1;", "s1;", "t1;s1;", "w0,9,1;", "t1;w0,9,1;x", "t1;w0,9,12;", "t1;w0,31,1;"};
        for (String text : notLaid) {
            stays(x -> {
                BUSY.on(x);
                Check.write(x, text);
            }, NO, "lay");
        }
        stays(x -> days(x, 999), NO, "pass", 1);
        stays(x -> days(x, 999), NO, "pass", 24);
        stays(x -> days(x, 976), NO, "pass", 24);
        stays(NEW, NO, "mend", 0, 0);
        stays(NEW, NO, "mend", 0, 1);
        stays(BUSY, NO, "mend", 1, 0);
        stays(NEW, NO, "undo");
        stays(NEW, NO, "back");
        stays(x -> {
            x.keep();
            x.pass(1);
            x.back();
        }, NO, "undo");
        stays(x -> {
            x.pass(1);
            x.keep();
            x.back();
            x.pass(1);
        }, NO, "back");
    }

    private static void thereIsNone() {
        check.sentence("NONE: there is none.");
        stays(NEW, NONE, "fault");
        stays(BUSY, NONE, "fault");
        stays(NEW, NONE, "word", 0, 1, 0);
        stays(NEW, NONE, "word", 0, 1, 1);
        stays(NEW, NONE, "behind", 0, 4, 0);
        stays(ALONE, NONE, "behind", 40, 0, 0);
        stays(NEW, NONE, "made", 1);
        stays(ALONE, NONE, "made", 0);
        stays(NEW, NONE, "best", 0, 1, 1);
        stays(NEW, NONE, "best", 0, 2, 2);
        stays(ALONE, NONE, "mends", 0);
        stays(ALONE, NONE, "mends", 1);
        stays(ALONE, NONE, "two", 0);
        stays(ALONE, NONE, "two", 1);
        stays(x -> Check.lay(x, "t5;w0,9,-;w0,9,-;"), NONE, "tests", 0);
        stays(x -> Check.lay(x, "t5;w0,9,-;w0,9,-;"), NONE, "tests", 1);
    }

    private static void full() {
        check.sentence("FULL.");
        stays(x -> page(x, 200), FULL, "write", ';');
        stays(x -> page(x, 200), FULL, "write", 32);
        stays(RefusedTest::sixHeard, FULL, "hear", 0, 0, 0);
        stays(RefusedTest::sixHeard, FULL, "hear", 7, 10, 20);
        stays(x -> {
            x.keep();
            x.pass(1);
            x.keep();
            x.pass(1);
        }, FULL, "keep");
    }
}
