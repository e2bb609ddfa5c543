/** Term 4, what is heard, and promises 21 to 24: a test for each sentence that names a bound, on both sides of it. */
public final class HeardBoundsTest {
    private static final int BAD = LastTongue.BAD, FULL = LastTongue.FULL;
    private static final Check check = new Check();

    public static void main(String[] args) {
        sixAtMost();
        zeroToNineAndTen();
        zeroToTwentyDays();
        ofWhichWords();
        nothingIsHeard();
        oneWooerAlwaysTheSame();
        howItStandsWhenAsked();
        whichOfAll();
        kindsOfAWooer();
        inPlaceOfHisOwn();
        kindsOfWhom();
        check.close("HeardBoundsTest");
    }

    private static void sixAtMost() {
        check.sentence("HEARD (6 at most)");
        LastTongue x = Check.laid("t12;w0,30,12;w0,30,12;");
        for (int many = 1; many <= 6; many++) {
            check.due("the one of that number", x.hear(0, 1, 0), many);
        }
        check.due("the seventh", x.hear(0, 9, 0), FULL);
        check.due("the seventh is not heard", x.which(), 3);
        check.due("how many", x.count(7), 6);
        check.due("forgotten", x.forget(), 6);
        check.due("the first of the next ones", x.hear(0, 9, 0), 1);
        check.due("that alone is heard", x.which(), 0);
        LastTongue last = Check.laid("t12;w0,30,12;w0,30,12;");
        for (int many = 1; many <= 5; many++) {
            last.hear(1, 2, many);
        }
        check.due("ahead of the sixth", last.which(), 3);
        check.due("the sixth", last.hear(1, 9, 6), 6);
        check.due("the sixth is heard", last.which(), 0);
    }

    private static void zeroToNineAndTen() {
        check.sentence("had a WORD as SOUND v (0 to 9; 10: had it not)");
        for (int v = 0; v <= 10; v++) {
            for (int way = 0; way <= 10; way++) {
                LastTongue x = Check.laid("t5;w0,9," + (way == 10 ? "-" : "" + way) + ";");
                check.due("hear(0, " + v + ", 0)", x.hear(0, v, 0), 1);
                check.due("heard " + v + ", had " + way, x.which(), v == way ? 1 : 0);
            }
        }
        LastTongue x = Check.laid("t5;w0,9,-;");
        check.due("hear(0, -1, 0)", x.hear(0, -1, 0), BAD);
        check.due("hear(0, 11, 0)", x.hear(0, 11, 0), BAD);
        check.due("neither is heard", x.count(7), 0);
    }

    private static void zeroToTwentyDays() {
        check.sentence("behind n (0 to 20) DAYS");
        for (int memory = 1; memory <= 21; memory++) {
            for (int n = 0; n <= 20; n++) {
                LastTongue x = Check.laid("t5;w0," + memory + ",5;");
                check.due("hear(0, 5, " + n + ")", x.hear(0, 5, n), 1);
                check.due("has it behind " + n + ", M is " + memory, x.which(), n < memory ? 1 : 0);
                x.forget();
                check.due("hear(0, 10, " + n + ")", x.hear(0, 10, n), 1);
                check.due("has it not behind " + n + ", M is " + memory, x.which(), n < memory ? 0 : 1);
            }
        }
        LastTongue x = Check.laid("t5;w0,9,5;");
        check.due("hear(0, 5, -1)", x.hear(0, 5, -1), BAD);
        check.due("hear(0, 5, 21)", x.hear(0, 5, 21), BAD);
        check.due("neither is heard", x.count(7), 0);
    }

    private static void ofWhichWords() {
        check.sentence("HEARD: how many. BAD; FULL.");
        LastTongue x = Check.laid("t12345678;w0,9,12345678;");
        check.due("behind the last word", x.hear(8, 1, 0), BAD);
        check.due("ahead of the first", x.hear(-1, 1, 0), BAD);
        check.due("the first", x.hear(0, 1, 0), 1);
        check.due("the last", x.hear(7, 8, 0), 2);
        check.due("both are so", x.which(), 1);
        x.hear(7, 7, 0);
        check.due("the last is not so", x.which(), 0);
        LastTongue one = Check.laid("t5;w0,9,5;");
        check.due("behind the only word", one.hear(1, 5, 0), BAD);
        check.due("the only word", one.hear(0, 5, 0), 1);
    }

    private static void nothingIsHeard() {
        check.sentence("Nothing is HEARD: how many were.");
        LastTongue x = new LastTongue();
        check.due("of a new object", x.forget(), 0);
        check.due("all would be so", x.which(), 31);
        check.due("of each kind", x.kinds(0), 15);
        check.due("one alone", Check.laid("t1;w0,9,1;").which(), 1);
        for (int many = 1; many <= 6; many++) {
            for (int i = 0; i < many; i++) {
                x.hear(4, 9, 20 - i);
            }
            check.due("nobody", x.which(), 0);
            check.due("how many", x.forget(), many);
            check.due("none is left", x.count(7), 0);
            check.due("all would be so again", x.which(), 31);
        }
    }

    private static void oneWooerAlwaysTheSame() {
        check.sentence("that one WOOER, always the same, had a WORD as SOUND v");
        LastTongue x = Check.laid("t12;w0,9,12;w0,9,15;w0,9,52;");
        x.hear(0, 1, 0);
        check.due("two of them", x.which(), 3);
        x.hear(1, 5, 0);
        check.due("one of them", x.which(), 2);
        x.hear(0, 5, 0);
        check.due("nobody alone, though each was somebody's", x.which(), 0);
    }

    private static void howItStandsWhenAsked() {
        check.sentence("from how it stands when that is asked (WHICH, KINDS)");
        LastTongue x = Check.laid("t1;w0,3,1;w0,9,5;");
        x.hear(0, 10, 1);
        check.due("which() at first", x.which(), 0);
        check.due("kinds(0) at first", x.kinds(0), 0);
        x.pass(2);
        check.due("which() two days on", x.which(), 1);
        check.due("kinds(0) two days on", x.kinds(0), 15);
        x.change(0, 1);
        check.due("which() from other seats", x.which(), 2);
        x.undo();
        x.undo();
        check.due("which() undone", x.which(), 0);
        check.due("no day goes by", x.count(3), 0);
    }

    private static void whichOfAll() {
        check.sentence("WHICH: WOOERS (bits) of whom all that is HEARD would be so.");
        for (int p = 0; p < 5; p++) {
            String[] rows = {"w0,9,1;", "w0,9,1;", "w0,9,1;", "w0,9,1;", "w0,9,1;"};
            rows[p] = "w0,9,2;";
            LastTongue x = Check.laid("t1;" + String.join("", rows));
            x.hear(0, 2, 0);
            check.due("one of five", x.which(), 1 << p);
            x.forget();
            x.hear(0, 1, 0);
            check.due("four of five", x.which(), 31 - (1 << p));
        }
        LastTongue order = Check.laid("t1;w0,20,1;");
        order.hear(0, 10, 20);
        order.hear(0, 1, 0);
        order.hear(0, 1, 19);
        check.due("in any order", order.which(), 1);
    }

    private static void kindsOfAWooer() {
        check.sentence("KINDS of a WOOER (bits of 0 to 3)");
        LastTongue x = Check.laid("t9;w0,9,9;w0,9,-;w0,9,-;");
        check.due("nothing heard: each", x.kinds(1), 15);
        x.hear(0, 0, 1);
        check.due("as a deaf one hears it", x.kinds(1), 2);
        x.forget();
        x.hear(0, 9, 1);
        check.due("as the others hear it", x.kinds(1), 13);
        x.hear(0, 9, 0);
        check.due("as none would have it", x.kinds(1), 0);
        check.due("the one who had it ahead, as each", x.kinds(0), 15);
    }

    private static void inPlaceOfHisOwn() {
        check.sentence("in place of his own, by which all that is HEARD would be so of him");
        for (int own = 0; own <= 3; own++) {
            LastTongue x = Check.laid("t9;w0,9,9;w" + own + ",9,-;w1,9,-;");
            x.hear(0, 0, 1);
            check.due("deaf in place of " + own, x.kinds(1), 2);
            check.due("as he is", x.which(), own == 1 ? 2 : 0);
            check.due("his own kind stays", x.wooer(1, 0), own);
            x.forget();
            x.hear(0, 0, 2);
            check.due("the next one, deaf himself", x.kinds(2) & 2, 2);
            check.due("the next one of another kind", x.kinds(2), own == 1 ? 15 : 2);
        }
    }

    private static void kindsOfWhom() {
        check.sentence("KINDS, as bits. BAD.");
        LastTongue x = new LastTongue();
        check.due("kinds(-1)", x.kinds(-1), BAD);
        check.due("kinds(5)", x.kinds(5), BAD);
        check.due("kinds(4)", x.kinds(4), 15);
        LastTongue one = Check.laid("t1;w0,9,1;");
        check.due("behind the only one", one.kinds(1), BAD);
        check.due("the only one", one.kinds(0), 15);
    }
}
