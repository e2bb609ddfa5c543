/** Promises 21 to 24: what was heard, who said it, of which kind one is. */
public final class HeardTest {
    private static final int BAD = LastTongue.BAD, FULL = LastTongue.FULL;
    private static final Check check = new Check();

    public static void main(String[] args) {
        hear();
        forget();
        which();
        whichAsItStands();
        kinds();
        check.close("HeardTest");
    }

    private static void hear() {
        LastTongue x = Check.laid("t12;w0,9,12;");
        int[][] bad = {{2, 0, 0}, {-1, 0, 0}, {0, -1, 0}, {0, 11, 0}, {0, 0, -1}, {0, 0, 21}, {8, 11, 21}};
        for (int[] b : bad) {
            check.due("promise 21: hear(" + b[0] + ", " + b[1] + ", " + b[2] + ")", x.hear(b[0], b[1], b[2]), BAD);
        }
        int[][] good = {{0, 0, 0}, {1, 10, 20}, {0, 9, 20}, {1, 0, 0}, {1, 10, 0}, {1, 10, 0}};
        for (int i = 0; i < good.length; i++) {
            check.due("promise 21: hear", x.hear(good[i][0], good[i][1], good[i][2]), i + 1);
        }
        check.due("promise 21: the seventh", x.hear(0, 0, 0), FULL);
        check.due("promise 21: bad ahead of full", x.hear(2, 0, 0), BAD);
        check.due("promise 21: heard", x.count(7), 6);
        check.due("promise 21: nothing to undo", x.count(8), 0);
    }

    private static void forget() {
        LastTongue x = Check.laid("t12;w0,9,12;");
        check.due("promise 22: nothing", x.forget(), 0);
        x.hear(0, 5, 0);
        x.hear(0, 5, 1);
        check.due("promise 22: ahead of it", x.which(), 0);
        check.due("promise 22: two", x.forget(), 2);
        check.due("promise 22: none then", x.count(7), 0);
        check.due("promise 22: all would be so", x.which(), 1);
        check.due("promise 22: heard anew", x.hear(0, 1, 0), 1);
        check.due("promise 22: of that alone", x.which(), 1);
    }

    private static void which() {
        LastTongue x = Check.laid("t9;w0,9,9;w1,9,-;w0,9,-;");
        check.due("promise 23: nothing heard", x.which(), 7);
        x.hear(0, 9, 0);
        check.due("promise 23: who has it", x.which(), 1);
        x.forget();
        x.hear(0, 0, 1);
        check.due("promise 23: who has it tomorrow", x.which(), 2);
        x.hear(0, 10, 0);
        check.due("promise 23: and has it not today", x.which(), 2);
        x.hear(0, 0, 2);
        check.due("promise 23: and the day behind", x.which(), 2);
        x.hear(0, 9, 0);
        check.due("promise 23: nobody", x.which(), 0);
        check.due("promise 23: no day goes by", x.count(3), 0);
        LastTongue words = Check.laid("t123;w0,9,12-;w0,9,-12;w0,9,-22;");
        words.hear(1, 2, 0);
        check.due("promise 23: another word", words.which(), 5);
        words.hear(2, 2, 0);
        check.due("promise 23: and another", words.which(), 4);
        LastTongue alone = Check.laid("t1;w0,20,1;");
        alone.hear(0, 10, 20);
        check.due("promise 23: behind 20 days", alone.which(), 1);
        alone.hear(0, 1, 19);
        check.due("promise 23: in any order", alone.which(), 1);
        alone.hear(0, 10, 19);
        check.due("promise 23: not both", alone.which(), 0);
    }

    private static void whichAsItStands() {
        LastTongue x = Check.laid("t9;w0,9,-;");
        x.hear(0, 9, 0);
        check.due("promise 23: not yet", x.which(), 0);
        x.lesson(0, 0);
        check.due("promise 23: as it stands when asked", x.which(), 1);
        x.undo();
        check.due("promise 23: undone", x.which(), 0);
    }

    private static void kinds() {
        LastTongue x = Check.laid("t9;w0,9,9;w0,9,-;w2,9,-;");
        check.due("promise 24: nothing heard", x.kinds(1), 15);
        x.hear(0, 0, 1);
        check.due("promise 24: deaf", x.kinds(1), 2);
        check.due("promise 24: by none", x.kinds(2), 0);
        check.due("promise 24: his own kind stays", x.wooer(1, 0), 0);
        x.forget();
        x.hear(0, 9, 1);
        check.due("promise 24: the others", x.kinds(1), 13);
        check.due("promise 24: he has it anyway", x.kinds(0), 15);
        x.forget();
        x.hear(0, 9, 2);
        check.due("promise 24: through another one", x.kinds(2), 13);
        check.due("promise 24: kinds(3)", x.kinds(3), BAD);
        check.due("promise 24: kinds(-1)", x.kinds(-1), BAD);
        LastTongue deaf = Check.laid("t9;w0,9,9;w1,9,-;");
        deaf.hear(0, 9, 1);
        check.due("promise 24: in place of his own", deaf.kinds(1), 13);
        check.due("promise 24: as he is", deaf.which(), 1);
    }
}
