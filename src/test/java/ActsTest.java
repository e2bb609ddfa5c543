/** Promises 9 to 13: lessons, days, words mended, seats, undone. */
public final class ActsTest {
    private static final int BAD = LastTongue.BAD, NO = LastTongue.NO;
    private static final Check check = new Check();

    public static void main(String[] args) {
        lessonByKind();
        lessonMakesNew();
        lessonBad();
        passAlone();
        passTwo();
        passByKind();
        passRound();
        passMemory();
        passBounds();
        mend();
        change();
        undo();
        undoLastEight();
        check.close("ActsTest");
    }

    private static void lessonByKind() {
        LastTongue x = Check.laid("t1294;w0,9,----;w1,9,----;w2,9,---7;w3,9,5---;s2;");
        check.due("promise 9: plain", x.lesson(0, 0), 1);
        int[] heard = {2, 2, 0, 4};
        for (int w = 0; w < 4; w++) {
            check.due("promise 9: deaf " + w, x.lesson(1, w), heard[w]);
        }
        check.due("promise 9: quick", x.lesson(2, 2), 9);
        check.rows("promise 9", x, "1---", "2204", "--97", "5---");
        check.due("promise 9: quick, the last one", x.lesson(2, 3), 4);
        check.due("promise 9: proud has it", x.lesson(3, 0), 5);
        check.due("promise 9: proud has it not", x.lesson(3, 1), 2);
        check.due("promise 9: plain has it wrong", Check.laid("t1;w0,9,5;").lesson(0, 0), 1);
        check.rows("promise 9", x, "1---", "2204", "1-94", "52--");
        LastTongue one = Check.laid("t7;w2,9,-;");
        check.due("promise 9: quick, one word", one.lesson(0, 0), 7);
        check.rows("promise 9: quick, one word", one, "7");
        LastTongue deaf = Check.laid("t7;w1,9,7;");
        check.due("promise 9: deaf has it right", deaf.lesson(0, 0), 8);
    }

    private static void lessonMakesNew() {
        LastTongue x = Check.laid("t12;w0,9,1-;");
        x.pass(3);
        check.same("promise 9: old", Check.ages(x, 0), "3 -");
        x.lesson(0, 0);
        check.same("promise 9: new", Check.ages(x, 0), "0 -");
        LastTongue proud = Check.laid("t12;w3,9,5-;");
        proud.pass(2);
        proud.lesson(0, 0);
        check.same("promise 9: proud, new", Check.ages(proud, 0), "0 -");
        LastTongue quick = Check.laid("t12;w2,9,-7;");
        quick.pass(2);
        quick.lesson(0, 0);
        check.rows("promise 9: the next one that he has", quick, "17");
        check.same("promise 9: the next one stays old", Check.ages(quick, 0), "0 2");
    }

    private static void lessonBad() {
        LastTongue x = Check.laid("t12;w0,9,--;w0,9,--;");
        int[][] bad = {{2, 0}, {-1, 0}, {0, 2}, {0, -1}, {5, 8}, {Integer.MIN_VALUE, 0}, {0, Integer.MAX_VALUE}};
        for (int[] b : bad) {
            check.due("promise 9: lesson(" + b[0] + ", " + b[1] + ")", x.lesson(b[0], b[1]), BAD);
        }
        check.due("promise 9: nothing to undo", x.count(8), 0);
        check.rows("promise 9: nothing changed", x, "--", "--");
    }

    private static void passAlone() {
        LastTongue x = Check.laid("t12;w0,3,12;s2;");
        check.due("promise 10: alone", x.pass(1), 1);
        check.same("promise 10: alone", Check.ages(x, 0), "1 1");
        check.due("promise 10: alone, second day", x.pass(1), 1);
        check.same("promise 10: alone, second day", Check.ages(x, 0), "2 2");
        check.due("promise 10: alone, third day", x.pass(1), 0);
        check.rows("promise 10: forgotten", x, "--");
        check.due("promise 10: days", x.count(3), 3);
    }

    private static void passTwo() {
        LastTongue x = Check.laid("t123;w0,2,12-;w0,2,--3;");
        check.due("promise 10: day 1", x.pass(1), 1);
        check.rows("promise 10: day 1", x, "123", "1-3");
        check.same("promise 10: day 1, ages of 0", Check.ages(x, 0), "0 1 0");
        check.same("promise 10: day 1, ages of 1", Check.ages(x, 1), "0 - 0");
        check.due("promise 10: day 2", x.pass(1), 2);
        check.rows("promise 10: day 2", x, "123", "123");
        check.same("promise 10: day 2, ages of 0", Check.ages(x, 0), "1 0 1");
        check.same("promise 10: day 2, ages of 1", Check.ages(x, 1), "1 0 1");
        check.due("promise 10: day 3", x.pass(1), 0);
        check.rows("promise 10: day 3", x, "-2-", "-2-");
        check.due("promise 10: day 4", x.pass(1), 0);
        check.rows("promise 10: day 4", x, "---", "---");
        LastTongue y = Check.laid("t123;w0,2,12-;w0,2,--3;");
        check.due("promise 10: three days", y.pass(3), 0);
        check.rows("promise 10: three days", y, "-2-", "-2-");
    }

    private static void passByKind() {
        String[][] runs = {{"t9;w0,9,9;w1,9,-;", "9", "0"}, {"t8;w0,9,8;w1,9,-;", "8", "8"},
            {"t9;w0,9,3;w1,9,-;", "3", "4"}, {"t9;w1,9,9;w0,9,-;", "9", "9"}, {"t12;w0,9,1-;w2,9,--;", "1-", "1-"},
            {"t1;w0,9,5;w3,9,-;", "5", "5"}, {"t1;w0,9,5;w3,9,7;", "5", "7"}, {"t12;w2,9,1-;w0,9,--;", "1-", "1-"}};
        for (String[] run : runs) {
            LastTongue x = Check.laid(run[0]);
            x.pass(1);
            check.rows("promise 10: " + run[0], x, run[1], run[2]);
        }
    }

    private static void passRound() {
        LastTongue x = Check.laid("t1;w0,9,1;w0,9,-;w0,9,-;");
        x.pass(1);
        check.rows("promise 10: all by what they had ahead", x, "1", "1", "-");
        x.pass(1);
        check.rows("promise 10: the next day", x, "1", "1", "1");
        LastTongue last = Check.laid("t1;w0,9,-;w0,9,-;w0,9,1;");
        last.pass(1);
        check.rows("promise 10: the last one tells the first", last, "1", "-", "1");
        LastTongue lowest = Check.laid("t1234;w0,9,-2-4;w0,9,1---;");
        lowest.pass(1);
        check.rows("promise 10: the lowest that one has not", lowest, "12-4", "12--");
        check.same("promise 10: the teller's ages", Check.ages(lowest, 0), "0 0 - 1");
    }

    private static void passMemory() {
        LastTongue told = Check.laid("t1;w0,1,1;w0,1,-;");
        told.pass(1);
        check.rows("promise 10: what one told is not forgotten", told, "1", "1");
        told.pass(1);
        check.rows("promise 10: then it is", told, "-", "-");
        LastTongue again = Check.laid("t1;w0,1,1;w0,9,1;");
        again.pass(1);
        check.rows("promise 10: he forgets what he is not told that day", again, "-", "1");
        check.same("promise 10: ages", Check.ages(again, 1), "1");
        again.pass(1);
        check.rows("promise 10: told the day behind", again, "1", "1");
        check.same("promise 10: told is new", Check.ages(again, 1), "0");
    }

    private static void passBounds() {
        LastTongue x = Check.laid("t1;w0,30,1;s1;");
        int[] bad = {0, -1, 25, Integer.MAX_VALUE, Integer.MIN_VALUE};
        for (int n : bad) {
            check.due("promise 10: pass(" + n + ")", x.pass(n), BAD);
        }
        check.due("promise 10: no day gone by", x.count(3), 0);
        check.due("promise 10: pass(24)", x.pass(24), 1);
        for (int i = 0; i < 40; i++) {
            check.due("promise 10: pass(24)", x.pass(24), 0);
        }
        check.due("promise 10: 984 days", x.count(3), 984);
        check.due("promise 10: beyond 999", x.pass(16), NO);
        check.due("promise 10: nothing changed", x.count(3), 984);
        check.due("promise 10: up to 999", x.pass(15), 0);
        check.due("promise 10: 999 days", x.count(3), 999);
        check.due("promise 10: one more", x.pass(1), NO);
        check.due("promise 10: bad ahead of no", x.pass(25), BAD);
        check.due("promise 10: undone", x.undo(), 7);
        check.due("promise 10: days back", x.count(3), 984);
        x.pass(15);
        x.lesson(0, 0);
        check.due("promise 14: behind at 999", x.behind(29, 0, -1), 1);
    }

    private static void mend() {
        LastTongue x = Check.laid("t12;w3,9,5-;w0,9,12;");
        x.pass(1);
        check.rows("promise 11", x, "52", "12");
        check.same("promise 11: ages", Check.ages(x, 0), "1 0");
        check.due("promise 11: it is right", x.mend(0, 1), NO);
        check.due("promise 11: nothing was done", x.count(8), 1);
        check.due("promise 11: mend", x.mend(0, 0), 5);
        check.rows("promise 11: mended", x, "12", "12");
        check.same("promise 11: new", Check.ages(x, 0), "0 0");
        check.due("promise 11: right then", x.wooer(0, 3), 3);
        check.due("promise 11: it is right now", x.mend(0, 0), NO);
        LastTongue y = Check.laid("t12;w1,9,-4;");
        check.due("promise 11: he has it not", y.mend(0, 0), NO);
        check.due("promise 11: a deaf one", y.mend(0, 1), 4);
        check.rows("promise 11: as it sounds", y, "-2");
        int[][] bad = {{1, 0}, {-1, 0}, {0, 2}, {0, -1}, {5, 0}, {0, 8}};
        for (int[] b : bad) {
            check.due("promise 11: mend(" + b[0] + ", " + b[1] + ")", y.mend(b[0], b[1]), BAD);
        }
    }

    private static void change() {
        LastTongue x = Check.laid("t12;w0,9,15;w1,4,--;w2,7,-2;");
        x.pass(1);
        check.rows("promise 12: ahead", x, "15", "2-", "-2");
        check.due("promise 12: change(2, 0)", x.change(2, 0), 0);
        check.rows("promise 12", x, "-2", "2-", "15");
        check.same("promise 12: ages of 0", Check.ages(x, 0), "- 1");
        check.same("promise 12: ages of 2", Check.ages(x, 2), "0 1");
        check.due("promise 12: kind", x.wooer(0, 0), 2);
        check.due("promise 12: memory of 0", x.wooer(0, 1), 7);
        check.due("promise 12: memory of 2", x.wooer(2, 1), 9);
        check.due("promise 12: right of 0", x.wooer(0, 3), 2);
        check.due("promise 12: right of 2", x.wooer(2, 3), 1);
        check.due("promise 12: change(0, 1)", x.change(0, 1), 1);
        check.rows("promise 12: again", x, "2-", "-2", "15");
        int[][] bad = {{0, 0}, {2, 2}, {3, 0}, {0, 3}, {-1, 0}, {0, -1}, {7, 7}};
        for (int[] b : bad) {
            check.due("promise 12: change(" + b[0] + ", " + b[1] + ")", x.change(b[0], b[1]), BAD);
        }
        check.due("promise 12: done so far", x.count(8), 3);
        LastTongue y = Check.laid("t12;w0,9,15;w0,9,26;");
        y.pass(3);
        y.lesson(0, 0);
        y.change(0, 1);
        check.same("promise 12: the ages go along, 0", Check.ages(y, 0), "3 3");
        check.same("promise 12: the ages go along, 1", Check.ages(y, 1), "0 3");
    }

    private static void undo() {
        LastTongue x = Check.laid("t12;w0,9,5-;w1,4,--;s1;");
        check.due("promise 13: nothing done", x.undo(), NO);
        x.lesson(1, 1);
        x.pass(3);
        x.mend(0, 0);
        x.change(0, 1);
        x.hear(0, 1, 0);
        check.due("promise 13: can be undone", x.count(8), 4);
        check.rows("promise 13: all done", x, "62", "12");
        check.due("promise 13: the seats", x.undo(), 3);
        check.due("promise 13: kind of 0", x.wooer(0, 0), 0);
        check.due("promise 13: memory of 0", x.wooer(0, 1), 9);
        check.rows("promise 13: the seats", x, "12", "62");
        check.due("promise 13: the mended word", x.undo(), 2);
        check.rows("promise 13: the mended word", x, "52", "62");
        check.due("promise 13: three days", x.undo(), 1);
        check.rows("promise 13: three days", x, "5-", "-2");
        check.same("promise 13: the ages", Check.ages(x, 1), "- 0");
        check.due("promise 13: days", x.count(3), 0);
        check.due("promise 13: the lesson", x.undo(), 0);
        check.rows("promise 13: the lesson", x, "5-", "--");
        check.due("promise 13: nothing more", x.undo(), NO);
        check.due("promise 13: what is heard stays", x.count(7), 1);
    }

    private static void undoLastEight() {
        LastTongue x = Check.laid("t1;w0,30,1;");
        for (int i = 1; i <= 11; i++) {
            x.pass(1);
            check.due("promise 13: can be undone", x.count(8), Math.min(i, 8));
        }
        for (int left = 7; left >= 0; left--) {
            check.due("promise 13: undo()", x.undo(), left);
            check.due("promise 13: days", x.count(3), 3 + left);
            check.due("promise 13: how old", x.word(0, 0, 1), 3 + left);
        }
        check.due("promise 13: the ninth", x.undo(), NO);
        check.due("promise 13: days stay", x.count(3), 3);
        x.lesson(0, 0);
        x.lesson(0, 0);
        check.due("promise 13: each lesson is one", x.undo(), 1);
    }
}
