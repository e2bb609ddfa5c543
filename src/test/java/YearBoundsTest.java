import java.math.BigInteger;

/** Term 4, hail, years and what is kept, and promises 25 to 29: a test for each sentence that names a bound. */
public final class YearBoundsTest {
    private static final int BAD = LastTongue.BAD, NO = LastTongue.NO, FULL = LastTongue.FULL;
    private static final String FULL_ROW = "w0,30,12345678;";
    private static final Check check = new Check();

    public static void main(String[] args) {
        hailOfZeroToEightDays();
        hailByZeroToTenOfTen();
        hailForItself();
        hailAllTheSameOlder();
        hailInLowestTerms();
        hailOfWhom();
        yearsByZ();
        yearsOfOneToSixtyDays();
        yearsDraws();
        yearsLots();
        yearsWooers();
        yearsWords();
        yearsMendIfItCanBe();
        yearsSeatsIfAnotherOne();
        yearsSeatsElse();
        yearsAheadOfTheDay();
        yearsChangeNothing();
        keptTwoAtMost();
        keptAllAsItStands();
        butWhatIsHeardAndTheText();
        behindWhichNothingIsUndone();
        backWithNothingKept();
        countsAtLeast();
        countsAtMost();
        countsOfWhat();
        fiveHundredAndTwelveCalls();
        check.close("YearBoundsTest");
    }

    private static void hailIs(String text, int p, int n, int x, int above, int below) {
        LastTongue t = Check.laid(text);
        check.answers(t, above, "hail", p, n, x, 0);
        check.answers(t, below, "hail", p, n, x, 1);
        check.due("no day goes by", t.count(3) + t.count(8), 0);
    }

    private static void hailOfZeroToEightDays() {
        check.sentence("HAIL: on each of n (0 to 8) DAYS");
        for (int n = 0; n <= 8; n++) {
            hailIs("t1;w0,30,-;w0,30,1;s1;", 0, n, 5, (1 << n) - 1, 1 << n);
            hailIs("t1;w0," + (n + 1) + ",1;s1;", 0, n, 5, 1, 1);
        }
        check.bad(new LastTongue(), "hail", new int[][] {{0, -1, 5, 0}, {0, 9, 5, 0}, {0, 9, 5, 1}, {0, 10, 0, 0}});
    }

    private static void hailByZeroToTenOfTen() {
        check.sentence("nobody tells anything at the inn by x (0 to 10) of ten");
        int[][] due = {{1, 1}, {9, 10}, {4, 5}, {7, 10}, {3, 5}, {1, 2}, {2, 5}, {3, 10}, {1, 5}, {1, 10}, {0, 1}};
        for (int x = 0; x <= 10; x++) {
            hailIs("t1;w0,30,-;w0,30,1;s1;", 0, 1, x, due[x][0], due[x][1]);
        }
        check.bad(new LastTongue(), "hail", new int[][] {{0, 1, -1, 0}, {0, 1, 11, 0}, {0, 0, 11, 1}, {0, 0, 100, 0}});
    }

    private static void hailForItself() {
        check.sentence("by x (0 to 10) of ten, for itself");
        String three = "t1;w0,30,-;w0,30,-;w0,30,1;s1;";
        hailIs(three, 1, 1, 2, 0, 1);
        hailIs(three, 1, 2, 5, 1, 4);
        hailIs(three, 1, 2, 1, 81, 100);
        hailIs(three, 1, 3, 2, 112, 125);
    }

    private static void hailAllTheSameOlder() {
        check.sentence("WORDS grow OLDER, are FORGOTTEN all the same");
        hailIs("t1;w0,3,1;s1;", 0, 2, 10, 1, 1);
        hailIs("t1;w0,3,1;s1;", 0, 3, 10, 0, 1);
        hailIs("t1;w0,8,1;w0,9,-;s1;", 0, 8, 10, 0, 1);
        hailIs("t1;w0,9,1;w0,9,-;s1;", 0, 8, 10, 1, 1);
        hailIs("t1;w0,2,1;w0,30,-;s1;", 0, 2, 5, 3, 4);
        hailIs("t1;w0,1,1;w0,30,-;s1;", 0, 1, 3, 7, 10);
    }

    private static void hailInLowestTerms() {
        check.sentence("the chance that a WOOER is a SPEAKER behind them, in lowest terms");
        String two = "t1;w0,30,-;w0,30,1;s1;";
        hailIs(two, 1, 0, 0, 1, 1);
        hailIs(two, 1, 8, 7, 1, 1);
        hailIs(two, 0, 0, 0, 0, 1);
        hailIs(two, 0, 8, 10, 0, 1);
        hailIs(two, 0, 8, 0, 1, 1);
        hailIs(two, 0, 8, 1, 99999999, 100000000);
        hailIs(two, 0, 8, 9, 56953279, 100000000);
        hailIs(two, 0, 2, 4, 21, 25);
    }

    private static void hailOfWhom() {
        check.sentence("HAIL: above (part = 0), below (1). BAD.");
        check.bad(new LastTongue(), "hail", new int[][] {{-1, 0, 0, 0}, {5, 0, 0, 0}, {0, 0, 0, -1}, {0, 0, 0, 2}, {5, 8, 10, 1}});
        check.bad(Check.laid("t1;w0,9,1;"), "hail", new int[][] {{1, 0, 0, 0}, {-1, 0, 0, 0}});
        check.due("the last of five", new LastTongue().hail(4, 8, 0, 1), 1);
    }

    private static int draw(int z, int k) {
        BigInteger x = BigInteger.valueOf(7919L * z + 6151L * k + 1);
        return x.multiply(x).mod(BigInteger.valueOf(65521)).intValueExact();
    }

    private static void yearIs(String text, int z, int n, int speakers, int right) {
        LastTongue x = Check.laid(text);
        check.answers(x, speakers, "year", z, n, 0);
        check.answers(x, right, "year", z, n, 1);
    }

    private static void yearsByZ() {
        check.sentence("A YEAR by z (0 to 9999)");
        check.bad(new LastTongue(), "year", new int[][] {{-1, 1, 0}, {10000, 1, 0}, {-9999, 60, 1}, {65521, 60, 1}});
        for (int z = 0; z <= 9999; z += z < 40 || z > 9960 ? 1 : 331) {
            int right = draw(z, 0) % 8 <= 3 ? 1 : 0;
            yearIs("t1;w0,9,-;s1;", z, 1, right, right);
        }
    }

    private static void yearsOfOneToSixtyDays() {
        check.sentence("of n (1 to 60) DAYS from now on");
        check.bad(new LastTongue(), "year", new int[][] {{0, 0, 0}, {0, 61, 0}, {0, -1, 1}, {9999, 61, 1}});
        check.due("one day", Check.laid("t1;w0,2,1;s1;").year(3, 1, 1), 1);
        check.due("two days", Check.laid("t1;w0,1,1;s1;").year(3, 1, 1), 0);
        LastTongue late = Check.laid("t1;w0,30,1;s1;");
        late.pass(24);
        late.pass(5);
        check.due("from now on", late.year(3, 1, 1), 0);
    }

    /** He remembers for two days: only a lesson ahead of the last day of all is left at the end. */
    private static void yearsDraws() {
        check.sentence("ahead of the k-th (0 first)");
        int[] years = {0, 1, 6, 9999};
        for (int z : years) {
            for (int n = 1; n <= 60; n++) {
                int right = draw(z, n - 1) % 8 <= 3 ? 1 : 0;
                yearIs("t1;w0,2,-;s1;", z, n, right, right);
            }
        }
    }

    private static int firstWith(int lot, int p, int wooers, int w, int words) {
        for (int z = 0; z <= 9999; z++) {
            int draw = draw(z, 0);
            boolean so = draw % 8 == lot && (p < 0 || draw / 8 % wooers == p) && (w < 0 || draw / 64 % words == w);
            if (so) {
                return z;
            }
        }
        throw new IllegalStateException("no such draw");
    }

    private static void yearsLots() {
        check.sentence("if DRAW modulo 8 is 0 to 3");
        int[] none = {1, 1, 1, 1, 0, 0, 0, 0};
        int[] wrong = {1, 1, 1, 1, 1, 0, 0, 0};
        int[] proud = {0, 0, 0, 0, 1, 0, 0, 0};
        for (int lot = 0; lot <= 7; lot++) {
            int z = firstWith(lot, -1, 1, -1, 1);
            yearIs("t1;w0,9,-;s1;", z, 1, none[lot], none[lot]);
            yearIs("t1;w0,9,5;s1;", z, 1, wrong[lot], wrong[lot]);
            yearIs("t1;w3,9,5;s1;", z, 1, proud[lot], proud[lot]);
        }
    }

    private static void yearsWooers() {
        check.sentence("WOOER (DRAW by 8, cut) modulo as many as there are has a LESSON");
        for (int men = 1; men <= 5; men++) {
            for (int drawn = 0; drawn < men; drawn++) {
                int z = firstWith(drawn % 4, drawn, men, -1, 1);
                for (int p = 0; p < men; p++) {
                    String[] seats = {"w1,9,-;", "w1,9,-;", "w1,9,-;", "w1,9,-;", "w1,9,-;"};
                    seats[p] = "w0,9,-;";
                    String text = "t1;" + String.join("", java.util.Arrays.copyOf(seats, men)) + "s1;";
                    yearIs(text, z, 1, p == drawn ? 1 : 0, p == drawn ? 1 : 0);
                }
            }
        }
    }

    private static void yearsWords() {
        check.sentence("by WORD (DRAW by 64, cut) modulo as many");
        for (int words = 1; words <= 8; words++) {
            for (int drawn = 0; drawn < words; drawn++) {
                int lesson = firstWith(drawn % 4, -1, 1, drawn, words);
                int mending = firstWith(4, -1, 1, drawn, words);
                for (int w = 0; w < words; w++) {
                    StringBuilder sounds = new StringBuilder("11111111".substring(0, words));
                    sounds.setCharAt(w, '2');
                    String text = "t" + sounds + ";w1,9," + "--------".substring(0, words) + ";s1;";
                    yearIs(text, lesson, 1, w == drawn ? 1 : 0, w == drawn ? 1 : 0);
                    StringBuilder row = new StringBuilder("--------".substring(0, words));
                    row.setCharAt(w, '5');
                    String wrong = "t" + sounds + ";w1,9," + row + ";s1;";
                    yearIs(wrong, mending, 1, w == drawn ? 1 : 0, w == drawn ? 1 : 0);
                }
            }
        }
    }

    private static void yearsMendIfItCanBe() {
        check.sentence("if 4, that WORD of his is MENDED, if it can be");
        int z = firstWith(4, -1, 1, -1, 1);
        yearIs("t1;w0,9,5;s1;", z, 1, 1, 1);
        yearIs("t1;w0,1,5;s1;", z, 1, 0, 0);
        yearIs("t1;w0,9,-;s1;", z, 1, 0, 0);
        yearIs("t1;w0,9,1;s1;", z, 1, 1, 1);
        LastTongue old = Check.laid("t1;w0,2,1;s1;");
        old.pass(1);
        check.due("what is right is not mended, so not new", old.year(z, 1, 1), 0);
        LastTongue wrong = Check.laid("t1;w0,2,5;s1;");
        wrong.pass(1);
        check.due("what is mended is new", wrong.year(z, 1, 1), 1);
    }

    private static void yearsSeatsIfAnotherOne() {
        check.sentence("if 5, he changes SEATS with WOOER (DRAW by 64, cut) modulo as many, if that is another one");
        for (int men = 1; men <= 5; men++) {
            for (int p = 0; p < men; p++) {
                for (int q = 0; q < men; q++) {
                    seatsChange(firstSeats(5, men, p, q), men, p, q);
                }
            }
        }
    }

    private static void yearsSeatsElse() {
        check.sentence("if DRAW modulo 8 is 0 to 3");
        // The last one would have to sit ahead of the plain one to tell him: only a change of seats makes it two.
        for (int lot = 4; lot <= 7; lot++) {
            int right = lot == 5 ? 2 : 1;
            yearIs("t1;w0,9,-;w1,9,-;w0,9,1;w1,9,-;s1;", firstSeats(lot, 4, 0, 1), 1, 1, 1);
            yearIs("t1;w0,9,-;w1,9,-;w0,9,1;w1,9,-;s1;", firstSeats(lot, 4, 0, 3), 1, right, right);
        }
    }

    private static int firstSeats(int lot, int men, int p, int q) {
        for (int z = 0; z <= 9999; z++) {
            int draw = draw(z, 0);
            if (draw % 8 == lot && draw / 8 % men == p && draw / 64 % men == q) {
                return z;
            }
        }
        throw new IllegalStateException("no such draw");
    }

    /** All but the next one round the table are deaf: who has the word tells it rightly to that one alone. */
    private static void seatsChange(int z, int men, int p, int q) {
        for (int has = 0; has < men; has++) {
            for (int plain = 0; plain < men; plain++) {
                String[] seats = new String[men];
                for (int i = 0; i < men; i++) {
                    seats[i] = "w" + (i == plain ? 0 : 1) + ",9," + (i == has ? "1;" : "-;");
                }
                int seat = has == p ? q : has == q ? p : has;
                int other = plain == p ? q : plain == q ? p : plain;
                int right = men > 1 && (seat + 1) % men == other ? 2 : 1;
                yearIs("t1;" + String.join("", seats) + "s1;", z, 1, right, right);
            }
        }
    }

    private static void yearsAheadOfTheDay() {
        check.sentence("ahead of the k-th (0 first)");
        yearIs("t1;w0,1,-;s1;", 0, 1, 0, 0);
        yearIs("t1;w0,2,-;s1;", 0, 1, 1, 1);
        yearIs("t1;w0,9,-;w0,9,-;s1;", 0, 1, 2, 2);
    }

    private static void yearsChangeNothing() {
        check.sentence("nothing changes by it");
        LastTongue x = Check.laid("t12345678;" + FULL_ROW + FULL_ROW + FULL_ROW + FULL_ROW + FULL_ROW + "s8;");
        check.due("all speakers", x.year(4, 1, 0), 5);
        check.due("all right", x.year(4, 1, 1), 40);
        check.due("days", x.count(3), 0);
        check.due("acts", x.count(8), 0);
        check.due("right", x.count(5), 40);
        check.sentence("A YEAR: SPEAKERS (what = 0), RIGHT (1). BAD.");
        check.bad(x, "year", new int[][] {{0, 1, -1}, {0, 1, 2}, {9999, 60, 2}});
    }

    private static void keptTwoAtMost() {
        check.sentence("2 at most");
        LastTongue x = Check.laid("t1;w0,30,1;");
        check.due("the first", x.keep(), 1);
        x.pass(1);
        check.due("the second", x.keep(), 2);
        x.pass(1);
        check.due("the third", x.keep(), FULL);
        check.due("kept", x.count(9), 2);
        check.due("the third is not kept", x.back(), 1);
        check.due("days of the second", x.count(3), 1);
        check.due("room again", x.keep(), 2);
        check.due("full again", x.keep(), FULL);
        x.back();
        check.due("the first again", x.back(), 0);
        check.due("days of the first", x.count(3), 0);
    }

    private static void keptAllAsItStands() {
        check.sentence("KEPT is all as it stands");
        Picture.Steps start = x -> {
            Check.lay(x, "t12;w0,5,5-;w2,4,--;w1,3,1-;s1;");
            x.pass(2);
        };
        Picture.Steps keptAndChanged = x -> {
            start.on(x);
            x.keep();
            x.mend(0, 0);
            x.change(0, 2);
            x.lesson(1, 1);
            x.pass(5);
            x.back();
        };
        // Only what can be undone is another: nothing behind back().
        LastTongue was = Picture.behind(start);
        LastTongue is = Picture.behind(keptAndChanged);
        for (int p = 0; p < 3; p++) {
            for (int what = 0; what <= 4; what++) {
                check.due("wooer(" + p + ", " + what + ")", is.wooer(p, what), was.wooer(p, what));
            }
            check.same("words of " + p, Check.row(is, p), Check.row(was, p));
            check.same("ages of " + p, Check.ages(is, p), Check.ages(was, p));
        }
        check.due("days", is.count(3), 2);
        check.due("S", is.count(2), 1);
        LastTongue none = Picture.behind(start);
        none.keep();
        check.due("what was done ahead can be undone behind keep()", none.undo(), 0);
        check.due("and it stays kept", none.back(), 0);
        check.due("as it was kept", none.count(3), 2);
    }

    private static void butWhatIsHeardAndTheText() {
        check.sentence("but what is HEARD and THE TEXT (these stay by back()");
        LastTongue x = Check.laid("t1;w0,9,1;");
        x.hear(0, 1, 0);
        x.keep();
        x.hear(0, 5, 0);
        x.write('x');
        x.pass(1);
        x.back();
        check.due("heard behind keep()", x.count(7), 2);
        check.due("heard behind keep() counts", x.which(), 0);
        check.due("letters", x.count(10), 11);
        check.due("the letter behind keep()", x.fault(), 10);
        x.keep();
        x.forget();
        x.wipe();
        x.back();
        check.due("what is forgotten stays so", x.count(7), 0);
        check.due("what is wiped stays so", x.count(10), 0);
    }

    private static void behindWhichNothingIsUndone() {
        check.sentence("As KEPT last (it is KEPT no more then): how many are left; nothing is UNDONE then.");
        LastTongue x = Check.laid("t1;w0,30,1;");
        x.pass(1);
        x.keep();
        x.keep();
        x.pass(1);
        check.due("the last", x.back(), 1);
        check.due("can be undone", x.count(8), 0);
        check.due("nothing", x.undo(), NO);
        x.pass(3);
        check.due("what is done then can be", x.undo(), 0);
        check.due("as it was kept", x.count(3), 1);
        check.due("the first", x.back(), 0);
        check.due("kept no more", x.back(), NO);
    }

    private static void backWithNothingKept() {
        check.sentence("how many are left; nothing is UNDONE then. NO.");
        LastTongue x = Check.laid("t1;w0,30,1;");
        x.pass(2);
        check.due("nothing kept", x.back(), NO);
        check.due("days stay", x.count(3), 2);
        check.due("what can be undone stays", x.undo(), 0);
    }

    private static void counts(String what, LastTongue x, int... due) {
        for (int i = 0; i < due.length; i++) {
            check.due(what + ", count(" + i + ")", x.count(i), due[i]);
        }
    }

    private static void countsAtLeast() {
        check.sentence("How many: 0 WORDS, 1 WOOERS, 2 S, 3 DAYS gone by, 4 SPEAKERS, 5 RIGHT in all");
        LastTongue x = Check.laid("t1;s1;w0,9,-;");
        x.wipe();
        counts("at least", x, 1, 1, 1, 0, 0, 0, 0, 0, 0, 0, 0);
    }

    private static void countsAtMost() {
        check.sentence("6 how many WORDS each has, in sum, 7 HEARD, 8 that can be UNDONE, 9 KEPT, 10 letters of THE TEXT");
        LastTongue x = Check.laid("t12345678;" + FULL_ROW + FULL_ROW + FULL_ROW + FULL_ROW + FULL_ROW + "s8;");
        x.wipe();
        for (int i = 0; i < 201; i++) {
            x.write(' ');
        }
        for (int i = 0; i < 7; i++) {
            x.hear(0, 0, 0);
        }
        x.keep();
        x.keep();
        x.keep();
        for (int i = 0; i < 9; i++) {
            x.pass(1);
        }
        counts("at most", x, 8, 5, 8, 9, 5, 40, 40, 6, 8, 2, 200);
        LastTongue wrong = Check.laid("t12;w0,9,55;w0,9,1-;s1;");
        counts("wrong ones are had, not right", wrong, 2, 2, 1, 0, 1, 1, 3, 0, 0, 0, 23);
    }

    private static void countsOfWhat() {
        check.sentence("10 letters of THE TEXT. BAD.");
        check.bad(new LastTongue(), "count", new int[][] {{-1}, {11}, {12}, {100}});
        check.due("the first", new LastTongue().count(0), 8);
        check.due("the last", new LastTongue().count(10), 0);
    }

    private static void fiveHundredAndTwelveCalls() {
        check.sentence("An object is used for at most 512 calls after it has been made");
        LastTongue x = new LastTongue();
        for (int call = 1; call <= 511; call++) {
            check.due("call " + call, x.lesson(0, call % 2), call % 2 == 0 ? 3 : 7);
        }
        check.due("call 512", x.undo(), 7);
        LastTongue dear = new LastTongue();
        for (int call = 1; call <= 510; call++) {
            dear.best(2, 3, -1);
        }
        check.due("call 511", dear.best(2, 3, -1), 7);
        check.due("call 512", dear.best(2, 3, 2), 6);
    }
}
