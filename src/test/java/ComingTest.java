/** Promises 14 to 20: what comes, what is best. */
public final class ComingTest {
    private static final int BAD = LastTongue.BAD, NONE = LastTongue.NONE;
    private static final Check check = new Check();

    public static void main(String[] args) {
        behind();
        made();
        madeBounds();
        best();
        bestBad();
        mends();
        two();
        tests();
        other();
        check.close("ComingTest");
    }

    private static void behind() {
        LastTongue x = Check.laid("t12;w0,3,52;");
        int[][] due = {{0, 0, 5}, {0, 1, 2}, {0, -1, 1}, {2, -1, 1}, {2, 0, 5}, {3, 0, NONE}, {3, -1, 0}, {40, 1, NONE},
            {41, 0, BAD}, {-1, 0, BAD}, {0, -2, BAD}, {0, 2, BAD}, {0, 8, BAD}};
        for (int[] d : due) {
            check.due("promise 14: behind(" + d[0] + ", 0, " + d[1] + ")", x.behind(d[0], 0, d[1]), d[2]);
        }
        check.due("promise 14: behind(0, 1, 0)", x.behind(0, 1, 0), BAD);
        check.due("promise 14: behind(0, -1, -1)", x.behind(0, -1, -1), BAD);
        check.due("promise 14: no day goes by", x.count(3), 0);
        check.due("promise 14: nothing to undo", x.count(8), 0);
        check.rows("promise 14: nothing changed", x, "52");
        LastTongue two = Check.laid("t93;w0,30,93;w1,30,--;");
        check.due("promise 14: told the first day", two.behind(1, 1, 0), 0);
        check.due("promise 14: not yet", two.behind(1, 1, 1), NONE);
        check.due("promise 14: told the second day", two.behind(2, 1, 1), 4);
        check.due("promise 14: both wrong", two.behind(2, 1, -1), 0);
        check.due("promise 14: both right", two.behind(2, 0, -1), 2);
    }

    private static void made() {
        LastTongue x = Check.laid("t1;w0,9,-;w0,30,1;w0,9,-;s1;");
        check.due("promise 15: tomorrow", x.made(2), 1);
        check.due("promise 15: now", x.made(1), 0);
        check.due("promise 15: in two days", x.made(0), 2);
        check.due("promise 15: made(3)", x.made(3), BAD);
        check.due("promise 15: made(-1)", x.made(-1), BAD);
        check.due("promise 15: nothing goes by", x.count(3), 0);
        check.due("promise 15: never", Check.laid("t1;w0,9,-;s1;").made(0), NONE);
        check.due("promise 15: not again", Check.laid("t1;w0,1,5;s1;").made(0), NONE);
        check.due("promise 15: too few words", Check.laid("t1;w0,9,1;").made(0), NONE);
    }

    private static void madeBounds() {
        LastTongue x = Check.laid("t52146358;w1,11,52156---;w0,2,156-65--;w3,8,5-74-1-6;w3,4,011-28--;w0,28,93446-00;s5;");
        check.due("promise 15: behind 60", x.made(4), 60);
        x.pass(24);
        x.pass(24);
        check.due("promise 15: behind 12 more", x.made(4), 12);
        check.due("promise 15: not ahead of it", x.behind(11, 4, -1) >= 5 ? 1 : 0, 0);
        check.due("promise 15: then", x.behind(12, 4, -1) >= 5 ? 1 : 0, 1);
        LastTongue late = Check.laid("t637220;w1,3,6--9-0;w3,29,6-5-9-;w3,26,-3722-;w1,7,80--20;w0,28,--714-;s3;");
        check.due("promise 15: behind 61", late.made(4), NONE);
        late.pass(1);
        check.due("promise 15: behind 60 then", late.made(4), 60);
    }

    private static void bestIs(String text, int n, int... due) {
        LastTongue x = Check.laid(text);
        for (int k = -1; k <= 2; k++) {
            int want = k + 1 < due.length ? due[k + 1] : NONE;
            check.due("promise 16: " + text + " best(0, " + n + ", " + k + ")", x.best(0, n, k), want);
        }
        check.due("promise 16: nothing goes by", x.count(3) + x.count(8), 0);
    }

    private static void best() {
        bestIs("t12;w0,2,--;", 1, 1, 0);
        bestIs("t12;w0,2,--;", 2, 1, 0, 0);
        bestIs("t12;w0,3,--;", 2, 2, 0, 1);
        bestIs("t123;w0,3,---;", 3, 2, 0, 0, 1);
        bestIs("t123;w0,4,---;", 3, 3, 0, 1, 2);
        bestIs("t123;w0,1,---;", 3, 0, 0, 0, 0);
        bestIs("t12;w1,9,--;", 1, 1, 1);
        bestIs("t12;w1,9,--;", 2, 1, 0, 1);
        bestIs("t123;w2,9,---;", 1, 2, 0);
        bestIs("t123;w2,9,---;", 2, 3, 0, 1);
        bestIs("t12;w3,9,5-;", 1, 1, 1);
        bestIs("t12;w0,9,52;", 1, 2, 0);
        bestIs("t12345678;w0,9,--------;", 3, 3, 0, 1, 2);
        bestIs("t99999999;w1,9,--------;", 2, 0, 0, 0);
        bestIs("t11111112;w1,9,--------;", 2, 1, 0, 7);
        bestIs("t9;w3,9,-;", 3, 1, 0, 0, 0);
        bestIs("t12;w0,9,--;w0,9,12;", 1, 2, 0);
        bestIs("t12;w0,9,--;w0,9,1-;", 1, 2, 1);
    }

    private static void bestBad() {
        LastTongue x = Check.laid("t12;w0,9,--;w0,9,--;");
        int[][] bad = {{2, 1, 0}, {-1, 1, 0}, {0, 0, 0}, {0, 4, 0}, {0, -1, -1}, {0, 1, 3}, {0, 1, -2}, {5, 1, 2}, {0, 3, 3}};
        for (int[] b : bad) {
            check.due("promise 16: best(" + b[0] + ", " + b[1] + ", " + b[2] + ")", x.best(b[0], b[1], b[2]), BAD);
        }
        check.due("promise 16: n is not more", x.best(1, 2, 2), NONE);
    }

    private static void mendsIs(String text, int whose, int many) {
        LastTongue x = Check.laid(text);
        check.due("promise 17: " + text + " mends(0)", x.mends(0), whose);
        check.due("promise 17: " + text + " mends(1)", x.mends(1), many);
        check.due("promise 17: mends(2)", x.mends(2), BAD);
        check.due("promise 17: mends(-1)", x.mends(-1), BAD);
        check.due("promise 17: nothing goes by", x.count(3) + x.count(8), 0);
    }

    private static void mends() {
        mendsIs("t12;w0,9,52;", 0, 2);
        mendsIs("t12;w0,6,52;", 0, 2);
        mendsIs("t12;w0,5,52;", 0, 0);
        mendsIs("t12;w0,9,55;", 0, 1);
        mendsIs("t12;w0,9,15;", 1, 2);
        mendsIs("t12;w0,9,--;w0,9,5-;", 10, 2);
        mendsIs("t1;w0,3,5;w0,9,5;", 10, 2);
        mendsIs("t1;w0,9,5;w0,9,5;", 0, 1);
        mendsIs("t12;w0,9,12;", NONE, NONE);
        mendsIs("t12;w0,9,--;w0,9,1-;", NONE, NONE);
        mendsIs("t1;w0,9,1;w0,9,1;w0,9,1;w0,9,1;w0,9,5;", 40, 5);
    }

    private static void twoIs(String text, int who, int many) {
        LastTongue x = Check.laid(text);
        check.due("promise 18: " + text + " two(0)", x.two(0), who);
        check.due("promise 18: " + text + " two(1)", x.two(1), many);
        check.due("promise 18: two(2)", x.two(2), BAD);
        check.due("promise 18: two(-1)", x.two(-1), BAD);
    }

    private static void two() {
        twoIs("t123;w0,9,1--;w0,9,12-;w0,9,--3;", 12, 3);
        twoIs("t12;w0,9,1-;w0,9,1-;w0,9,1-;", 1, 1);
        twoIs("t1;w0,9,5;w0,9,-;", 1, 0);
        twoIs("t12;w0,9,15;w0,9,52;", 1, 2);
        twoIs("t12;w0,9,1-;w0,9,--;w0,9,-2;w0,9,-2;", 2, 2);
        twoIs("t12;w0,9,--;w0,9,--;w0,9,--;w0,9,-2;w0,9,1-;", 34, 2);
        twoIs("t12;w0,9,12;", NONE, NONE);
    }

    private static void testsIs(String text, int many, int which) {
        LastTongue x = Check.laid(text);
        check.due("promise 19: " + text + " tests(0)", x.tests(0), many);
        check.due("promise 19: " + text + " tests(1)", x.tests(1), which);
        check.due("promise 19: tests(2)", x.tests(2), BAD);
        check.due("promise 19: tests(-1)", x.tests(-1), BAD);
    }

    private static void tests() {
        testsIs("t123;w0,9,1--;w0,9,12-;w0,9,--3;", 2, 3);
        testsIs("t12;w0,9,15;w0,9,12;", 1, 2);
        testsIs("t12;w0,9,15;w0,9,1-;", 1, 2);
        testsIs("t1;w0,9,1;w0,9,1;", NONE, NONE);
        testsIs("t1;w0,9,-;w3,8,-;", NONE, NONE);
        testsIs("t123;w0,9,--1;w0,9,-22;w0,9,1-3;", 1, 4);
        testsIs("t12;w0,9,34;w0,9,56;", 1, 1);
        testsIs("t12345678;w0,9,--------;w0,9,-------8;", 1, 128);
        testsIs("t1;w0,9,1;w0,9,2;w0,9,3;w0,9,4;w0,9,-;", 1, 1);
        testsIs("t12;w0,9,12;", 0, 0);
        LastTongue aged = Check.laid("t1;w0,9,1;w0,9,-;");
        aged.pass(1);
        aged.pass(1);
        aged.lesson(0, 0);
        check.due("promise 19: age parts none", aged.tests(0), NONE);
    }

    private static void otherIs(String text, int bits) {
        check.due("promise 20: " + text + " other()", Check.laid(text).other(), bits);
    }

    private static void other() {
        otherIs("t5;w0,9,3;w0,9,3;w0,9,5;", 1);
        otherIs("t5;w0,9,3;w0,9,5;", 0);
        otherIs("t5;w0,9,3;w0,9,4;w0,9,5;", 0);
        otherIs("t5;w0,9,5;w0,9,3;w0,9,4;w0,9,4;", 1);
        otherIs("t5;w0,9,3;w0,9,4;", 1);
        otherIs("t5;w0,9,-;w0,9,-;w0,9,5;", 0);
        otherIs("t55;w0,9,-3;w0,9,--;", 2);
        otherIs("t12345678;w0,9,0--0---0;", 137);
        otherIs("t5;w0,9,-;", 0);
    }
}
