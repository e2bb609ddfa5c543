/** Promises 25 to 29: hail, years, what is kept, how many. */
public final class YearsTest {
    private static final int BAD = LastTongue.BAD, NO = LastTongue.NO, FULL = LastTongue.FULL;
    private static final Check check = new Check();

    public static void main(String[] args) {
        hail();
        hailBad();
        yearDraws();
        yearOrder();
        yearBad();
        keep();
        back();
        count();
        check.close("YearsTest");
    }

    private static void hailIs(String text, int p, int n, int x, int above, int below) {
        LastTongue t = Check.laid(text);
        String call = "promise 25: " + text + " hail(" + p + ", " + n + ", " + x + ", ";
        check.due(call + "0)", t.hail(p, n, x, 0), above);
        check.due(call + "1)", t.hail(p, n, x, 1), below);
        check.due("promise 25: nothing goes by", t.count(3) + t.count(8), 0);
    }

    private static void hail() {
        String two = "t1;w0,30,-;w0,30,1;s1;";
        hailIs(two, 0, 1, 3, 7, 10);
        hailIs(two, 0, 2, 5, 3, 4);
        hailIs(two, 0, 2, 4, 21, 25);
        hailIs(two, 0, 0, 5, 0, 1);
        hailIs(two, 1, 0, 5, 1, 1);
        hailIs(two, 1, 8, 5, 1, 1);
        hailIs(two, 0, 8, 10, 0, 1);
        hailIs(two, 0, 8, 0, 1, 1);
        hailIs(two, 0, 8, 5, 255, 256);
        hailIs(two, 0, 8, 1, 99999999, 100000000);
        hailIs(two, 0, 1, 10, 0, 1);
        hailIs(two, 0, 1, 9, 1, 10);
        hailIs(two, 0, 2, 9, 19, 100);
        String three = "t1;w0,30,-;w0,30,-;w0,30,1;s1;";
        hailIs(three, 1, 2, 5, 1, 4);
        hailIs(three, 1, 3, 2, 112, 125);
        hailIs("t1;w0,3,1;s1;", 0, 2, 10, 1, 1);
        hailIs("t1;w0,3,1;s1;", 0, 3, 10, 0, 1);
        // Told on either day it is new once more; only two days of hail are M days.
        hailIs("t1;w0,2,1;w0,30,-;s1;", 0, 2, 5, 3, 4);
    }

    private static void hailBad() {
        LastTongue x = Check.laid("t1;w0,9,1;s1;");
        int[][] bad = {{1, 0, 0, 0}, {-1, 0, 0, 0}, {0, 9, 0, 0}, {0, -1, 0, 0}, {0, 0, 11, 0}, {0, 0, -1, 0},
            {0, 0, 0, 2}, {0, 0, 0, -1}};
        for (int[] b : bad) {
            check.due("promise 25: hail(" + b[0] + ", " + b[1] + ", " + b[2] + ", " + b[3] + ")",
                x.hail(b[0], b[1], b[2], b[3]), BAD);
        }
    }

    private static void yearIs(String text, int z, int n, int speakers, int right) {
        LastTongue x = Check.laid(text);
        check.due("promise 26: " + text + " year(" + z + ", " + n + ", 0)", x.year(z, n, 0), speakers);
        check.due("promise 26: " + text + " year(" + z + ", " + n + ", 1)", x.year(z, n, 1), right);
        check.due("promise 26: nothing changes", x.count(3) + x.count(8), 0);
    }

    /** By the first draws of a year: 0: 1; 1: 22803; 2: 59533; 3: 44670; 7: 58977; 15: 35404; 53: 24260. */
    private static void yearDraws() {
        yearIs("t12;w0,9,--;s1;", 0, 1, 1, 1);
        yearIs("t12;w0,9,--;s1;", 1, 1, 1, 1);
        yearIs("t12;w0,9,--;s1;", 3, 1, 0, 0);
        yearIs("t12;w0,9,-5;s1;", 15, 1, 1, 1);
        yearIs("t12;w0,9,5-;s1;", 15, 1, 0, 0);
        yearIs("t12;w0,9,55;s1;", 53, 1, 1, 1);
        yearIs("t1;w0,9,1;w1,9,-;w0,9,-;s1;", 2, 1, 2, 2);
        yearIs("t1;w0,9,1;w1,9,-;w0,9,-;s1;", 3, 1, 1, 1);
        yearIs("t12;w1,9,--;s1;", 0, 1, 0, 0);
        yearIs("t1;w1,9,-;w1,9,-;w0,9,-;w1,9,-;w1,9,-;s1;", 7, 1, 1, 1);
        yearIs("t12111111;w1,9,--------;s1;", 7, 1, 1, 1);
        yearIs("t1;w0,9,1;w1,9,-;w0,9,-;w1,9,-;s1;", 2, 1, 2, 2);
        yearIs("t1;w0,9,-;w1,9,-;w1,9,-;w0,9,1;s1;", 2, 1, 2, 2);
        yearIs("t12;w2,9,--;s2;", 0, 1, 1, 2);
    }

    private static void yearOrder() {
        yearIs("t12;w0,1,--;s1;", 0, 1, 0, 0);
        yearIs("t12;w0,2,--;s1;", 0, 1, 1, 1);
        yearIs("t12;w0,2,--;s1;", 0, 2, 0, 0);
        yearIs("t12;w0,2,--;s1;", 0, 3, 1, 1);
        LastTongue x = Check.laid("t12;w0,2,-2;s1;");
        x.pass(1);
        check.due("promise 26: what is right can't be mended", x.year(15, 1, 1), 0);
        check.due("promise 26: from now on", x.count(3), 1);
    }

    private static void yearBad() {
        LastTongue x = Check.laid("t1;w0,9,1;s1;");
        int[][] bad = {{-1, 1, 0}, {10000, 1, 0}, {0, 0, 0}, {0, 61, 0}, {0, 1, 2}, {0, 1, -1},
            {Integer.MAX_VALUE, 1, 0}, {0, Integer.MIN_VALUE, 0}};
        for (int[] b : bad) {
            check.due("promise 26: year(" + b[0] + ", " + b[1] + ", " + b[2] + ")", x.year(b[0], b[1], b[2]), BAD);
        }
        LastTongue first = new LastTongue();
        check.due("promise 26: the last z", first.year(9999, 60, 0) >= 0 ? 1 : 0, 1);
    }

    private static void keep() {
        LastTongue x = new LastTongue();
        check.due("promise 27: one", x.keep(), 1);
        check.due("promise 27: two", x.keep(), 2);
        check.due("promise 27: full", x.keep(), FULL);
        check.due("promise 27: kept", x.count(9), 2);
        check.due("promise 27: nothing to undo", x.count(8), 0);
        x.back();
        check.due("promise 27: room again", x.keep(), 2);
        x.lesson(0, 1);
        check.due("promise 27: what is done can be undone behind it", x.undo(), 0);
    }

    private static void back() {
        LastTongue x = Check.laid("t12;w0,9,5-;w1,4,--;s1;");
        check.due("promise 28: nothing kept", x.back(), NO);
        x.pass(2);
        x.keep();
        x.lesson(1, 1);
        x.change(0, 1);
        x.keep();
        x.pass(3);
        x.hear(1, 2, 0);
        x.wipe();
        x.write('t');
        check.due("promise 28: the last one", x.back(), 1);
        check.rows("promise 28: the last one", x, "62", "5-");
        check.due("promise 28: kind", x.wooer(0, 0), 1);
        check.due("promise 28: days", x.count(3), 2);
        check.due("promise 28: nothing is undone", x.undo(), NO);
        check.due("promise 28: what is heard stays", x.count(7), 1);
        check.due("promise 28: the text stays", x.count(10), 1);
        x.pass(1);
        check.due("promise 28: the first one", x.back(), 0);
        check.rows("promise 28: the first one", x, "5-", "6-");
        check.same("promise 28: ages", Check.ages(x, 1), "1 -");
        check.due("promise 28: memory", x.wooer(1, 1), 4);
        check.due("promise 28: days then", x.count(3), 2);
        check.due("promise 28: nothing to undo", x.count(8), 0);
        check.due("promise 28: no more", x.back(), NO);
    }

    private static void count() {
        LastTongue x = Check.laid("t123;w0,9,125;w0,9,1--;s2;");
        x.pass(2);
        x.keep();
        x.hear(0, 1, 0);
        x.hear(0, 1, 1);
        x.hear(0, 1, 2);
        int[] want = {3, 2, 2, 2, 2, 4, 6, 3, 1, 1, 26};
        for (int what = 0; what < want.length; what++) {
            check.due("promise 29: count(" + what + ")", x.count(what), want[what]);
        }
        check.due("promise 29: count(11)", x.count(11), BAD);
        check.due("promise 29: count(-1)", x.count(-1), BAD);
        check.due("promise 29: count(max)", x.count(Integer.MAX_VALUE), BAD);
    }
}
