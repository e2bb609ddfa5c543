/** Term 3 and promises 14 to 20: a test for each sentence that names a bound, just inside of it and just outside. */
public final class ComingBoundsTest {
    private static final int BAD = LastTongue.BAD, NONE = LastTongue.NONE;
    private static final Check check = new Check();

    public static void main(String[] args) {
        behindUpToForty();
        behindHowManyRight();
        behindOfWhom();
        madeNow();
        madeUpToSixty();
        madeBehindSixtyOne();
        madeOfWhom();
        bestOfOneToThree();
        bestHasTheLastDay();
        bestOfSeveralTheFirst();
        bestTheLastRow();
        bestTheKth();
        bestOfWhom();
        mendBehindFiveDays();
        mendInSum();
        mendOfSeveralTheFirst();
        mendNone();
        mendWhich();
        twoCountOnce();
        twoOfSeveralTheFirst();
        twoNone();
        testsOfFewest();
        testsOfSeveralTheLowest();
        testsByHavingNone();
        testsNone();
        testsOfOneAlone();
        otherMoreThanRight();
        otherEachWayByItself();
        otherNoWord();
        check.close("ComingBoundsTest");
    }

    private static void behindUpToForty() {
        check.sentence("BEHIND n (0 to 40) DAYS how a WOOER has a WORD");
        // He is told on the first day, forgets it on the fourth, is told on the fifth, and so on.
        LastTongue x = Check.laid("t1;w0,3,-;w0,12,7;");
        for (int n = 0; n <= 40; n++) {
            check.due("behind " + n, x.behind(n, 0, 0), n % 4 == 0 ? NONE : 7);
            check.due("who tells him, behind " + n, x.behind(n, 1, 0), 7);
        }
        check.bad(x, "behind", new int[][] {{-1, 0, 0}, {41, 0, 0}, {42, 1, -1}, {-40, 1, -1}});
        check.due("no day goes by", x.count(3), 0);
        x.pass(24);
        x.pass(15);
        check.due("a day behind 39", x.behind(1, 0, 0), NONE);
        check.due("now", x.behind(0, 0, 0), 7);
    }

    private static void behindHowManyRight() {
        check.sentence("BEHIND: how he has a WORD (w 0 on; NONE), how many RIGHT (w = -1). BAD.");
        LastTongue x = Check.laid("t12345678;w0,3,12345670;w0,2,--------;");
        check.due("right now", x.behind(0, 0, -1), 7);
        check.due("none right", x.behind(0, 1, -1), 0);
        check.due("one right", x.behind(1, 1, -1), 1);
        LastTongue all = Check.laid("t12345678;w0,3,12345678;");
        check.due("all right", all.behind(2, 0, -1), 8);
        check.due("all forgotten", all.behind(3, 0, -1), 0);
        check.due("the last word", all.behind(2, 0, 7), 8);
        check.due("the last word forgotten", all.behind(3, 0, 7), NONE);
    }

    private static void behindOfWhom() {
        check.sentence("BEHIND: how he has a WORD (w 0 on; NONE), how many RIGHT (w = -1). BAD.");
        check.bad(new LastTongue(), "behind", new int[][] {{0, -1, 0}, {0, 5, 0}, {0, 0, -2}, {0, 0, 8}, {0, 5, -1}, {0, -1, -1}});
        LastTongue one = Check.laid("t5;w0,9,5;");
        check.bad(one, "behind", new int[][] {{0, 1, 0}, {0, 0, 1}, {0, 0, -2}, {41, 0, 0}});
        check.due("the only one", one.behind(0, 0, 0), 5);
    }

    private static void madeNow() {
        check.sentence("MADE of a WOOER: behind how many DAYS (0 to 60) he is a SPEAKER first");
        LastTongue x = Check.laid("t1;w0,30,1;w0,30,-;w0,30,-;w0,30,-;w0,30,-;s1;");
        for (int p = 0; p < 5; p++) {
            check.due("made(" + p + ")", x.made(p), p);
        }
        x.pass(2);
        for (int p = 0; p < 5; p++) {
            check.due("made(" + p + ") two days on", x.made(p), Math.max(p - 2, 0));
        }
    }

    /** Lets the days go by, too: he must not be a speaker on any of them ahead of the one that is due. */
    private static void madeUpToSixty() {
        check.sentence("MADE of a WOOER: behind how many DAYS (0 to 60) he is a SPEAKER first");
        LastTongue x = Check.laid("t1234;w2,19,-2-4;w0,2,--3-;w3,28,1-3-;s4;");
        for (int left = 60; left > 0; left--) {
            check.due("made(1), " + left + " ahead", x.made(1), left);
            check.due("a speaker, " + left + " ahead", x.wooer(1, 4), 0);
            x.pass(1);
        }
        check.due("made(1) then", x.made(1), 0);
        check.due("a speaker then", x.wooer(1, 4), 1);
    }

    private static void madeBehindSixtyOne() {
        check.sentence("behind how many DAYS (0 to 60) he is a SPEAKER first; none.");
        LastTongue x = Check.laid("t1234;w3,28,--34;w3,27,-23-;w0,2,1---;s4;");
        check.due("behind 61", x.made(2), NONE);
        x.pass(1);
        check.due("behind 60", x.made(2), 60);
        x.pass(24);
        x.pass(24);
        x.pass(11);
        check.due("behind 1", x.made(2), 1);
        check.due("never", Check.laid("t1;w0,9,2;s1;").made(0), NONE);
        check.due("S is more than there are words", Check.laid("t1;w0,9,1;s2;").made(0), NONE);
        check.due("forgotten, but a speaker now", Check.laid("t1;w0,1,1;s1;").made(0), 0);
    }

    private static void madeOfWhom() {
        check.sentence("MADE. NONE; BAD.");
        check.bad(new LastTongue(), "made", new int[][] {{-1}, {5}, {60}});
        check.bad(Check.laid("t1;w0,9,1;s1;"), "made", new int[][] {{1}, {-1}});
    }

    private static void bestIs(String text, int n, int... due) {
        LastTongue x = Check.laid(text);
        for (int k = -1; k < due.length - 1; k++) {
            check.answers(x, due[k + 1], "best", 0, n, k);
        }
    }

    private static void bestOfOneToThree() {
        check.sentence("BEST for a WOOER, n (1 to 3)");
        bestIs("t1234;w0,9,----;", 1, 1, 0);
        bestIs("t1234;w0,9,----;", 2, 2, 0, 1);
        bestIs("t1234;w0,9,----;", 3, 3, 0, 1, 2);
        check.bad(Check.laid("t1234;w0,9,----;"), "best", new int[][] {{0, 0, -1}, {0, 0, 0}, {0, 4, -1}, {0, 4, 2}, {0, -1, 0}});
    }

    private static void bestHasTheLastDay() {
        check.sentence("that behind which (and the last DAY) he has most RIGHT");
        bestIs("t12;w0,1,12;", 1, 0, 0);
        bestIs("t12;w0,2,--;", 1, 1, 0);
        bestIs("t12;w0,2,--;", 2, 1, 0, 0);
        bestIs("t12;w0,3,--;", 2, 2, 0, 1);
        bestIs("t123;w0,3,---;", 3, 2, 0, 0, 1);
        bestIs("t12;w0,9,--;w0,9,-2;", 1, 2, 0);
        bestIs("t1;w0,1,-;w0,9,1;", 1, 0, 0);
    }

    private static void bestOfSeveralTheFirst() {
        check.sentence("of several the first (by the first WORD, the lowest ahead, then the second, ..)");
        bestIs("t123;w0,1,---;", 3, 0, 0, 0, 0);
        bestIs("t123;w0,9,123;", 3, 3, 0, 0, 0);
        bestIs("t123;w0,9,1--;", 1, 2, 1);
        bestIs("t123;w0,9,1--;", 2, 3, 1, 2);
        bestIs("t123;w0,9,1--;", 3, 3, 0, 1, 2);
        bestIs("t123;w0,9,12-;", 2, 3, 0, 2);
        bestIs("t123;w0,9,12-;", 3, 3, 0, 0, 2);
        bestIs("t12345678;w0,9,1234567-;", 3, 8, 0, 0, 7);
        bestIs("t12345678;w0,9,--------;", 3, 3, 0, 1, 2);
    }

    private static void bestTheLastRow() {
        check.sentence("of all rows of n WORDS");
        // Each other lesson puts a deaf one's word wrong, so the last row of all is the only best one.
        for (int n = 1; n <= 3; n++) {
            bestIs("t13579138;w1,9,1357913-;", n, 8, 7, n > 1 ? 7 : NONE, n > 2 ? 7 : NONE);
        }
        bestIs("t5;w0,9,-;", 3, 1, 0, 0, 0);
        bestIs("t79;w1,9,7-;", 3, 1, 1, 1, 1);
    }

    private static void bestTheKth() {
        check.sentence("BEST: how many (k = -1), the k-th WORD (0 to 2; NONE: n is not more). BAD.");
        bestIs("t1234;w0,9,----;", 1, 1, 0, NONE, NONE);
        bestIs("t1234;w0,9,----;", 2, 2, 0, 1, NONE);
        bestIs("t1234;w0,9,----;", 3, 3, 0, 1, 2);
        LastTongue x = Check.laid("t1234;w0,9,----;");
        for (int n = 1; n <= 3; n++) {
            check.bad(x, "best", new int[][] {{0, n, -2}, {0, n, 3}});
        }
    }

    private static void bestOfWhom() {
        check.sentence("BEST: how many (k = -1), the k-th WORD (0 to 2; NONE: n is not more). BAD.");
        check.bad(new LastTongue(), "best", new int[][] {{-1, 1, 0}, {5, 1, 0}, {5, 1, 2}, {-1, 1, 2}, {5, 1, -1}});
        check.bad(Check.laid("t1;w0,9,1;"), "best", new int[][] {{1, 1, 0}, {-1, 1, 0}});
        check.due("the last of five", new LastTongue().best(4, 2, -1), 4);
    }

    private static void mendsIs(String text, int whose, int many) {
        LastTongue x = Check.laid(text);
        check.answers(x, whose, "mends", 0);
        check.answers(x, many, "mends", 1);
    }

    private static void mendBehindFiveDays() {
        check.sentence("all WOOERS have most RIGHT in sum behind 5 DAYS");
        mendsIs("t1;w0,4,5;", 0, 0);
        mendsIs("t1;w0,5,5;", 0, 0);
        mendsIs("t1;w0,6,5;", 0, 1);
        mendsIs("t12;w0,5,52;w0,6,52;", 10, 2);
    }

    private static void mendInSum() {
        check.sentence("all WOOERS have most RIGHT in sum behind 5 DAYS");
        mendsIs("t1;w0,9,5;w0,9,-;w0,9,-;w0,9,-;w0,9,-;", 0, 5);
        mendsIs("t12345678;w0,9,02345678;w0,9,12345678;w0,9,12345678;w0,9,12345678;w0,9,12345678;", 0, 40);
        mendsIs("t1;w0,9,5;w1,9,5;w0,9,5;", 0, 1);
    }

    private static void mendOfSeveralTheFirst() {
        check.sentence("of several the first (by the WOOER, then the WORD)");
        mendsIs("t12;w0,9,55;w0,9,55;", 0, 1);
        mendsIs("t12;w0,9,15;w0,9,55;", 1, 2);
        mendsIs("t12345678;w0,9,12345670;w0,9,02345678;", 7, 15);
        mendsIs("t1;w0,1,5;w0,9,5;w0,9,5;", 10, 1);
    }

    private static void mendNone() {
        check.sentence("how many; none.");
        mendsIs("t12;w0,9,--;", NONE, NONE);
        mendsIs("t12;w0,9,12;w0,9,1-;", NONE, NONE);
        mendsIs("t12;w0,1,15;", 1, 0);
    }

    private static void mendWhich() {
        check.sentence("MEND: whose which (what = 0), how many (1). NONE; BAD.");
        String row = "w0,9,12345678;";
        mendsIs("t12345678;" + row + row + row + row + "w0,9,12345679;", 47, 40);
        mendsIs("t12345678;w0,9,02345678;" + row + row + row + row, 0, 40);
        check.bad(new LastTongue(), "mends", new int[][] {{-1}, {2}});
        check.bad(Check.laid("t1;w0,9,1;"), "mends", new int[][] {{-1}, {2}});
    }

    private static void twoIs(String text, int who, int many) {
        LastTongue x = Check.laid(text);
        check.answers(x, who, "two", 0);
        check.answers(x, many, "two", 1);
    }

    private static void twoCountOnce() {
        check.sentence("RIGHT of one of both at least (each such WORD counts once)");
        twoIs("t12;w0,9,12;w0,9,12;", 1, 2);
        twoIs("t1234;w0,9,123-;w0,9,12--;w0,9,---4;", 2, 4);
        twoIs("t12;w0,9,52;w0,9,15;", 1, 2);
        twoIs("t12345678;w0,9,1234----;w0,9,----5678;", 1, 8);
    }

    private static void twoOfSeveralTheFirst() {
        check.sentence("of several the first (by the lower one, then the other)");
        twoIs("t1;w0,9,-;w0,9,-;w0,9,-;w0,9,-;w0,9,-;", 1, 0);
        twoIs("t12;w0,9,1-;w0,9,--;w0,9,--;w0,9,-2;w0,9,-2;", 3, 2);
        twoIs("t12;w0,9,--;w0,9,-2;w0,9,-2;w0,9,1-;w0,9,1-;", 13, 2);
        twoIs("t12;w0,9,--;w0,9,--;w0,9,--;w0,9,-2;w0,9,1-;", 34, 2);
    }

    private static void twoNone() {
        check.sentence("none (there is one)");
        twoIs("t1;w0,9,1;", NONE, NONE);
        twoIs("t1;w0,9,5;w0,9,-;", 1, 0);
        check.sentence("TWO: who (what = 0), how many (1). NONE; BAD.");
        check.bad(new LastTongue(), "two", new int[][] {{-1}, {2}});
        check.bad(Check.laid("t1;w0,9,1;"), "two", new int[][] {{-1}, {2}});
    }

    private static void testsIs(String text, int many, int which) {
        LastTongue x = Check.laid(text);
        check.answers(x, many, "tests", 0);
        check.answers(x, which, "tests", 1);
    }

    private static void testsOfFewest() {
        check.sentence("no two WOOERS are alike, that of fewest");
        testsIs("t123;w0,9,113;w0,9,124;w0,9,225;", 1, 4);
        testsIs("t12;w0,9,11;w0,9,12;w0,9,21;w0,9,22;", 2, 3);
        testsIs("t123;w0,9,111;w0,9,112;w0,9,121;w0,9,211;", 3, 7);
        testsIs("t1234;w0,9,----;w0,9,1---;w0,9,-2--;w0,9,--3-;w0,9,---4;", 4, 15);
        testsIs("t12345678;w0,9,--------;w0,9,----5---;w0,9,-----6--;w0,9,------7-;w0,9,-------8;", 4, 240);
        testsIs("t1;w0,9,0;w0,9,1;w0,9,2;w0,9,3;w0,9,4;", 1, 1);
    }

    private static void testsOfSeveralTheLowest() {
        check.sentence("of several the lowest as bits");
        testsIs("t12345678;w0,9,12345678;w0,9,--------;", 1, 1);
        testsIs("t12345678;w0,9,1-----78;w0,9,1-------;", 1, 64);
        testsIs("t12345678;w0,9,1------8;w0,9,1-------;", 1, 128);
        testsIs("t123;w0,9,11-;w0,9,122;w0,9,212;w0,9,22-;", 2, 3);
        testsIs("t123;w0,9,111;w0,9,121;w0,9,112;w0,9,122;", 2, 6);
    }

    private static void testsByHavingNone() {
        check.sentence("having none is another way");
        testsIs("t1;w0,9,1;w0,9,-;", 1, 1);
        testsIs("t1;w0,9,0;w0,9,-;", 1, 1);
        testsIs("t1;w0,9,1;w0,9,-;w0,9,0;", 1, 1);
    }

    private static void testsNone() {
        check.sentence("TESTS: how many (what = 0), which (1; bits). NONE; BAD.");
        testsIs("t1;w0,9,1;w3,8,1;", NONE, NONE);
        testsIs("t1;w0,9,-;w0,9,-;", NONE, NONE);
        testsIs("t12;w0,9,1-;w0,9,12;w0,9,--;w0,9,21;w0,9,12;", NONE, NONE);
        check.bad(new LastTongue(), "tests", new int[][] {{-1}, {2}});
        check.bad(Check.laid("t1;w0,9,1;w0,9,1;"), "tests", new int[][] {{-1}, {2}});
    }

    private static void testsOfOneAlone() {
        check.sentence("no two WOOERS are alike, that of fewest");
        testsIs("t1;w0,9,1;", 0, 0);
        testsIs("t12345678;w0,9,--------;", 0, 0);
        testsIs("t1;w0,9,1;w0,9,2;", 1, 1);
    }

    private static void otherIs(String text, int bits) {
        check.due(text + " other()", Check.laid(text).other(), bits);
    }

    private static void otherMoreThanRight() {
        check.sentence("in one way (each way by itself) that is not as it SOUNDS than RIGHT");
        otherIs("t5;w0,9,3;", 1);
        otherIs("t5;w0,9,5;", 0);
        otherIs("t5;w0,9,3;w0,9,5;", 0);
        otherIs("t5;w0,9,3;w0,9,5;w0,9,3;", 1);
        otherIs("t5;w0,9,3;w0,9,5;w0,9,3;w0,9,5;", 0);
        otherIs("t5;w0,9,5;w0,9,3;w0,9,3;w0,9,3;w0,9,5;", 1);
        otherIs("t12345678;w0,9,0------0;", 129);
        otherIs("t12345678;w0,9,87654321;", 255);
    }

    private static void otherEachWayByItself() {
        check.sentence("each way by itself");
        otherIs("t5;w0,9,3;w0,9,4;w0,9,5;", 0);
        otherIs("t5;w0,9,1;w0,9,2;w0,9,3;w0,9,4;w0,9,5;", 0);
        otherIs("t5;w0,9,1;w0,9,2;w0,9,3;w0,9,3;w0,9,5;", 1);
        otherIs("t5;w0,9,1;w0,9,2;", 1);
        otherIs("t5;w0,9,1;w0,9,1;w0,9,2;w0,9,5;w0,9,5;", 0);
    }

    private static void otherNoWord() {
        check.sentence("that more WOOERS have in one way");
        otherIs("t5;w0,9,-;", 0);
        otherIs("t5;w0,9,-;w0,9,-;w0,9,-;w0,9,-;w0,9,5;", 0);
        otherIs("t5;w0,9,-;w0,9,-;w0,9,-;w0,9,-;w0,9,4;", 1);
        otherIs("t0;w0,9,-;w0,9,-;", 0);
    }
}
