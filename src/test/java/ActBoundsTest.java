/** Term 2 and promises 9 to 13: a test for each sentence that names a bound, just inside of it and just outside. */
public final class ActBoundsTest {
    private static final int BAD = LastTongue.BAD, NO = LastTongue.NO, NONE = LastTongue.NONE;
    /** How a deaf one hears the sounds 0 to 9. */
    private static final int[] DEAF = {0, 2, 2, 4, 4, 6, 6, 8, 8, 0};
    private static final Check check = new Check();

    public static void main(String[] args) {
        atFirstNew();
        lessonsOfThePlain();
        lessonsOfTheDeaf();
        lessonsOfTheProud();
        theNextWordOfTheQuick();
        behindTheLastWordTheFirst();
        ifTheQuickHasItNot();
        aLessonMakesNew();
        lessonsOfWhom();
        behindTheLastWooerTheFirst();
        nothingIfAlone();
        theLowestWord();
        whatThatOneHasNot();
        nothingToTell();
        byWhatTheyHadAhead();
        soldOnIsNew();
        theDeafAtTheInn();
        theQuickAtTheInn();
        aDayOlder();
        forgottenAtItsDays();
        toldAndNotForgotten();
        daysUpTo999();
        howManyDaysAtOnce();
        howManySpeakers();
        mendedIsNew();
        mendedOnlyIfWrong();
        allOfTheirsChangesSeats();
        whoIsInTheFirstSeat();
        notWithHimself();
        nothingToUndo();
        theLastEight();
        daysOfOneTimeAreOne();
        eachActIsUndoneWhole();
        refusedIsNotUndone();
        rightIsAsItSounds();
        check.close("ActBoundsTest");
    }

    /** How the words are, and how old, of one wooer. */
    private static void his(String what, LastTongue x, int p, String row, String ages) {
        check.same(what + ", words of " + p, Check.row(x, p), row);
        check.same(what + ", ages of " + p, Check.ages(x, p), ages);
    }

    private static void atFirstNew() {
        check.sentence("A WORD that a WOOER has is so many DAYS OLD (at first 0).");
        his("a new object", new LastTongue(), 0, "3---4---", "0 - - - 0 - - -");
        his("laid", Check.laid("t12;w0,9,15;"), 0, "15", "0 0");
    }

    private static void lessonsOfThePlain() {
        check.sentence("a PLAIN, a QUICK one its SOUND");
        for (int sound = 0; sound <= 9; sound++) {
            check.due("plain", Check.laid("t" + sound + ";w0,9,-;").lesson(0, 0), sound);
            check.due("quick", Check.laid("t" + sound + ";w2,9,-;").lesson(0, 0), sound);
            check.due("plain, has it wrong", Check.laid("t" + sound + ";w0,9," + (9 - sound) + ";").lesson(0, 0), sound);
            check.due("quick, has it wrong", Check.laid("t" + sound + ";w2,9," + (9 - sound) + ";").lesson(0, 0), sound);
        }
    }

    private static void lessonsOfTheDeaf() {
        check.sentence("a DEAF one its SOUND, and 1 (behind 9 comes 0), if that is uneven");
        for (int sound = 0; sound <= 9; sound++) {
            LastTongue x = Check.laid("t" + sound + ";w1,9,-;");
            check.due("sound " + sound, x.lesson(0, 0), DEAF[sound]);
            check.due("sound " + sound + " then", x.word(0, 0, 0), DEAF[sound]);
            check.due("sound " + sound + " right", x.wooer(0, 3), sound % 2 == 0 ? 1 : 0);
            check.due("sound " + sound + " once more", x.lesson(0, 0), DEAF[sound]);
        }
    }

    private static void lessonsOfTheProud() {
        check.sentence("a PROUD one as he has it already, if he does, else its SOUND");
        for (int sound = 0; sound <= 9; sound++) {
            check.due("has it", Check.laid("t5;w3,9," + sound + ";").lesson(0, 0), sound);
            check.due("has it not", Check.laid("t" + sound + ";w3,9,-;").lesson(0, 0), sound);
        }
        LastTongue x = Check.laid("t5;w3,1,7;");
        check.due("has it", x.lesson(0, 0), 7);
        x.pass(1);
        check.due("forgot it", x.lesson(0, 0), 5);
    }

    private static void theNextWordOfTheQuick() {
        check.sentence("a QUICK one has the next WORD (behind the last one the first), too, as it SOUNDS");
        LastTongue x = Check.laid("t1379;w2,9,----;");
        check.due("the first", x.lesson(0, 0), 1);
        his("the second, too", x, 0, "13--", "0 0 - -");
        x.pass(1);
        check.due("the third", x.lesson(0, 2), 7);
        his("the fourth, too, new", x, 0, "1379", "1 1 0 0");
        String[] others = {"w0", "w1", "w3"};
        for (String kind : others) {
            LastTongue y = Check.laid("t2468;" + kind + ",9,----;");
            y.lesson(0, 0);
            his(kind + " no next one", y, 0, "2---", "0 - - -");
        }
    }

    private static void behindTheLastWordTheFirst() {
        check.sentence("the next WORD (behind the last one the first)");
        LastTongue x = Check.laid("t12345678;w2,9,--------;");
        x.lesson(0, 7);
        his("of eight", x, 0, "1------8", "0 - - - - - - 0");
        LastTongue ahead = Check.laid("t12345678;w2,9,--------;");
        ahead.lesson(0, 6);
        his("the last but one", ahead, 0, "------78", "- - - - - - 0 0");
        LastTongue one = Check.laid("t7;w2,9,-;");
        check.due("of one", one.lesson(0, 0), 7);
        his("of one", one, 0, "7", "0");
        LastTongue two = Check.laid("t79;w2,9,--;");
        two.lesson(0, 1);
        his("of two", two, 0, "79", "0 0");
    }

    private static void ifTheQuickHasItNot() {
        check.sentence("too, as it SOUNDS, if he has it not");
        LastTongue x = Check.laid("t123;w2,9,-54;");
        x.pass(3);
        x.lesson(0, 0);
        his("has it wrong", x, 0, "154", "0 3 3");
        x.lesson(0, 2);
        his("has the first one", x, 0, "153", "0 3 0");
        LastTongue y = Check.laid("t12;w2,9,-2;");
        y.pass(8);
        y.lesson(0, 0);
        his("has it right", y, 0, "12", "0 8");
        LastTongue z = Check.laid("t12;w2,8,-5;");
        z.pass(8);
        z.lesson(0, 0);
        his("has forgotten it", z, 0, "12", "0 0");
    }

    private static void aLessonMakesNew() {
        check.sentence("he has it from then on as he hears it, 0 DAYS OLD");
        for (int kind = 0; kind <= 3; kind++) {
            LastTongue x = Check.laid("t26;w" + kind + ",9,26;");
            x.pass(8);
            his("ahead", x, 0, "26", "8 8");
            x.lesson(0, 1);
            his("new", x, 0, "26", "8 0");
            x.pass(1);
            his("from then on", x, 0, "-6", "- 1");
        }
    }

    private static void lessonsOfWhom() {
        check.sentence("A LESSON: how he has the WORD then. BAD.");
        LastTongue x = Check.laid("t12345678;w0,9,--------;w0,9,--------;w0,9,--------;w0,9,--------;w0,9,--------;");
        check.bad(x, "lesson", new int[][] {{-1, 0}, {5, 0}, {0, -1}, {0, 8}, {-1, -1}, {5, 8}});
        check.due("the first", x.lesson(0, 0), 1);
        check.due("the last", x.lesson(4, 7), 8);
        LastTongue one = Check.laid("t5;w0,9,-;");
        check.bad(one, "lesson", new int[][] {{1, 0}, {0, 1}, {-1, 0}, {0, -1}});
        check.due("the only one", one.lesson(0, 0), 5);
    }

    private static void behindTheLastWooerTheFirst() {
        check.sentence("tells the next one round the table (behind the last one the first");
        String[] empty = {"w0,9,-;", "w0,9,-;", "w0,9,-;", "w0,9,-;", "w0,9,-;"};
        for (int men = 2; men <= 5; men++) {
            for (int p = 0; p < men; p++) {
                String[] seats = java.util.Arrays.copyOf(empty, men);
                seats[p] = "w0,9,1;";
                LastTongue x = Check.laid("t1;" + String.join("", seats));
                x.pass(1);
                for (int q = 0; q < men; q++) {
                    boolean has = q == p || q == (p + 1) % men;
                    check.due(men + " wooers, of " + p + " to " + q, x.word(q, 0, 0), has ? 1 : NONE);
                }
            }
        }
    }

    private static void nothingIfAlone() {
        check.sentence("himself, if he is alone: nothing");
        LastTongue x = Check.laid("t123;w0,3,1-4;");
        x.pass(1);
        his("a day", x, 0, "1-4", "1 - 1");
        x.pass(1);
        his("two days", x, 0, "1-4", "2 - 2");
        x.pass(1);
        his("three days", x, 0, "---", "- - -");
    }

    private static void theLowestWord() {
        check.sentence("the lowest WORD that he has and that one has not");
        LastTongue x = Check.laid("t12345678;w0,9,12345678;w0,9,--------;");
        for (int day = 1; day <= 8; day++) {
            x.pass(1);
            check.due("had behind " + day, x.wooer(1, 2), (1 << day) - 1);
        }
        LastTongue last = Check.laid("t12345678;w0,9,-------8;w0,9,--------;");
        last.pass(1);
        check.rows("the last word alone", last, "-------8", "-------8");
    }

    private static void whatThatOneHasNot() {
        check.sentence("the lowest WORD that he has and that one has not");
        LastTongue x = Check.laid("t1234;w0,9,-234;w0,9,-7-4;");
        x.pass(1);
        his("had wrong is had", x, 1, "-734", "- 1 0 1");
        his("he has not the first", x, 0, "-234", "- 1 0 1");
    }

    private static void nothingToTell() {
        check.sentence("the lowest WORD that he has and that one has not");
        LastTongue none = Check.laid("t12;w0,9,--;w0,9,--;");
        none.pass(1);
        check.rows("nobody has a word", none, "--", "--");
        LastTongue all = Check.laid("t12;w0,9,12;w0,9,21;");
        all.pass(1);
        his("both have all", all, 0, "12", "1 1");
        his("both have all", all, 1, "21", "1 1");
        LastTongue one = Check.laid("t12;w0,9,1-;w0,9,12;");
        one.pass(1);
        his("he has no more than that one", one, 0, "12", "1 0");
        his("he has no more than that one", one, 1, "12", "1 0");
    }

    private static void byWhatTheyHadAhead() {
        check.sentence("all by what they had ahead of the DAY");
        LastTongue chain = Check.laid("t1;w0,9,1;w0,9,-;w0,9,-;w0,9,-;");
        chain.pass(1);
        check.rows("one seat a day", chain, "1", "1", "-", "-");
        LastTongue exchange = Check.laid("t12;w0,9,1-;w0,9,-2;");
        exchange.pass(1);
        check.rows("both tell", exchange, "12", "12");
        LastTongue forgot = Check.laid("t1;w0,1,1;w0,9,1;");
        forgot.pass(1);
        check.rows("he had it ahead, and is not told", forgot, "-", "1");
        LastTongue tells = Check.laid("t1;w0,9,-;w0,1,1;w0,9,1;");
        tells.pass(1);
        check.rows("who forgets is not told either", tells, "1", "-", "1");
    }

    private static void soldOnIsNew() {
        check.sentence("that one has it so, 0 DAYS OLD");
        LastTongue x = Check.laid("t1;w0,9,7;w0,9,-;w0,9,-;");
        x.pass(4);
        his("told on the second day", x, 2, "7", "2");
        LastTongue y = Check.laid("t1;w0,9,7;w0,1,-;");
        y.pass(1);
        his("new, and not a day older on that day", y, 1, "7", "0");
    }

    private static void theDeafAtTheInn() {
        check.sentence("but a DEAF one as he hears that SOUND");
        for (int way = 0; way <= 9; way++) {
            LastTongue x = Check.laid("t1;w0,9," + way + ";w1,9,-;");
            x.pass(1);
            check.due("told " + way, x.word(1, 0, 0), DEAF[way]);
            check.due("who told it has it as before", x.word(0, 0, 0), way);
            for (int kind = 0; kind <= 3; kind++) {
                LastTongue y = Check.laid("t1;w1,9," + way + ";w" + kind + ",9,-;");
                y.pass(1);
                check.due("told by a deaf one", y.word(1, 0, 0), kind == 1 ? DEAF[way] : way);
            }
        }
    }

    private static void theQuickAtTheInn() {
        check.sentence("a QUICK one hears no next WORD at the inn");
        LastTongue x = Check.laid("t12;w0,9,1-;w2,9,--;");
        x.pass(1);
        his("quick", x, 1, "1-", "0 -");
        LastTongue last = Check.laid("t12;w0,9,-2;w2,9,--;");
        last.pass(1);
        his("quick, the last word", last, 1, "-2", "- 0");
    }

    private static void aDayOlder() {
        check.sentence("Then each WORD that one had ahead of the DAY is 1 DAY OLDER");
        LastTongue x = Check.laid("t123;w0,9,1-3;w0,9,123;");
        x.pass(1);
        his("told is not older", x, 0, "123", "1 0 1");
        x.pass(1);
        his("the day behind it is", x, 0, "123", "2 1 2");
        x.pass(6);
        his("six more", x, 0, "123", "8 7 8");
    }

    private static void forgottenAtItsDays() {
        check.sentence("is FORGOTTEN if it is M DAYS OLD then (he has it no more)");
        for (int memory = 1; memory <= 30; memory++) {
            LastTongue x = Check.laid("t1;w0," + memory + ",1;s1;");
            for (int day = 1; day < memory; day++) {
                check.due(memory + " days, behind " + day, x.pass(1), 1);
                check.due(memory + " days, old behind " + day, x.word(0, 0, 1), day);
            }
            check.due(memory + " days, behind as many", x.pass(1), 0);
            check.due(memory + " days, how", x.word(0, 0, 0), NONE);
            check.due(memory + " days, how old", x.word(0, 0, 1), NONE);
            check.due(memory + " days, words", x.wooer(0, 2), 0);
        }
        LastTongue wrong = Check.laid("t12;w0,2,57;");
        wrong.pass(2);
        his("wrong ones, too", wrong, 0, "--", "- -");
    }

    private static void toldAndNotForgotten() {
        check.sentence("one that he told is 0 DAYS OLD instead (and not FORGOTTEN)");
        LastTongue x = Check.laid("t12;w0,1,12;w0,1,--;");
        x.pass(1);
        his("the one he told", x, 0, "1-", "0 -");
        his("who was told", x, 1, "1-", "0 -");
        x.pass(1);
        his("not told any more", x, 0, "--", "- -");
        LastTongue old = Check.laid("t1;w0,3,1;w0,2,1;");
        old.pass(2);
        his("two of three days old, told to nobody yet", old, 0, "1", "2");
        his("forgotten by the next one", old, 1, "-", "-");
        old.pass(1);
        his("told on the third day", old, 0, "1", "0");
        his("who was told", old, 1, "1", "0");
    }

    private static LastTongue behindDays(int days) {
        LastTongue x = Check.laid("t1;w0,30,1;s1;");
        for (int left = days; left > 0; left -= 24) {
            x.pass(Math.min(left, 24));
        }
        check.due("days gone by", x.count(3), days);
        return x;
    }

    private static void daysUpTo999() {
        check.sentence("Then it is the next DAY (999 can go by).");
        for (int n = 1; n <= 24; n++) {
            LastTongue x = behindDays(999 - n);
            check.due("up to 999", x.pass(n), 0);
            check.due("999", x.count(3), 999);
            check.due("one more", x.pass(1), NO);
            check.due("many more", x.pass(24), NO);
            LastTongue y = behindDays(1000 - n);
            check.due("beyond 999", y.pass(n), NO);
            check.due("not one of them goes by", y.count(3), 1000 - n);
        }
        LastTongue full = behindDays(999);
        full.keep();
        check.due("undone", full.undo(), 7);
        check.due("there is room then", full.pass(1), 0);
        full.back();
        check.due("back at 999", full.pass(1), NO);
        check.due("other acts at 999", full.lesson(0, 0), 1);
    }

    private static void howManyDaysAtOnce() {
        check.sentence("n DAYS (1 to 24) go by");
        for (int n = 1; n <= 24; n++) {
            LastTongue x = Check.laid("t1;w0,30,1;s1;");
            check.due("pass(" + n + ")", x.pass(n), 1);
            check.due("days", x.count(3), n);
            check.due("how old", x.word(0, 0, 1), n);
        }
        check.bad(new LastTongue(), "pass", new int[][] {{0}, {25}, {-1}, {-24}, {999}, {1000}});
    }

    private static void howManySpeakers() {
        check.sentence("how many SPEAKERS there are");
        String[] rows = {"w0,9,12;", "w0,9,12;", "w0,9,12;", "w0,9,12;", "w0,9,12;"};
        for (int wrong = 0; wrong <= 5; wrong++) {
            for (int p = 0; p < wrong; p++) {
                rows[p] = "w0,9,15;";
            }
            check.due(wrong + " of five are none", Check.laid("t12;" + String.join("", rows) + "s2;").pass(1), 5 - wrong);
        }
        check.due("then, not ahead", Check.laid("t1;w0,9,1;w0,9,-;s1;").pass(1), 2);
    }

    private static void mendedIsNew() {
        check.sentence("A WORD that a WOOER has is MENDED: it is as it SOUNDS, 0 DAYS OLD.");
        for (int kind = 0; kind <= 3; kind++) {
            LastTongue x = Check.laid("t99;w" + kind + ",9,50;");
            x.pass(8);
            check.due("how he had it", x.mend(0, 1), 0);
            his("the one that is mended", x, 0, "59", "8 0");
            check.due("how he had the other one", x.mend(0, 0), 5);
            his("both", x, 0, "99", "0 0");
        }
        LastTongue next = Check.laid("t12;w2,9,5-;");
        next.mend(0, 0);
        his("no next word", next, 0, "1-", "0 -");
    }

    private static void mendedOnlyIfWrong() {
        check.sentence("MENDED: how he had it. BAD; NO: he has it not; it is RIGHT.");
        LastTongue x = Check.laid("t12345678;w0,9,1------9;w0,9,--------;w0,9,12345679;");
        x.pass(1);
        check.due("it is right", x.mend(0, 0), NO);
        check.due("he has it not", x.mend(1, 7), NO);
        check.same("no act, not new", Check.ages(x, 2), "1 0 1 1 1 1 1 1");
        check.bad(x, "mend", new int[][] {{-1, 0}, {3, 0}, {0, -1}, {0, 8}, {3, 8}, {-1, -1}});
        check.due("acts", x.count(8), 1);
        check.due("the last word of the last", x.mend(2, 7), 9);
        check.due("once more", x.mend(2, 7), NO);
        LastTongue one = Check.laid("t0;w0,9,9;");
        check.bad(one, "mend", new int[][] {{1, 0}, {0, 1}});
        check.due("the only one", one.mend(0, 0), 9);
    }

    private static void allOfTheirsChangesSeats() {
        check.sentence("Two WOOERS change SEATS: all of theirs does (KIND, M, WORDS).");
        String text = "t12345678;w0,5,1-------;w1,6,-2------;w2,7,--9-----;w3,8,12345678;w0,9,--------;";
        for (int p = 0; p < 5; p++) {
            for (int q = 0; q < 5; q++) {
                if (p != q) {
                    changed(text, p, q);
                }
            }
        }
    }

    private static void changed(String text, int p, int q) {
        LastTongue was = Check.laid(text);
        LastTongue x = Check.laid(text);
        was.pass(3);
        x.pass(3);
        check.due("change(" + p + ", " + q + ")", x.change(p, q), was.wooer(q, 0));
        for (int seat = 0; seat < 5; seat++) {
            int from = seat == p ? q : seat == q ? p : seat;
            for (int what = 0; what <= 4; what++) {
                check.due("wooer(" + seat + ", " + what + ")", x.wooer(seat, what), was.wooer(from, what));
            }
            his("in seat " + seat, x, seat, Check.row(was, from), Check.ages(was, from));
        }
        check.due("changed back", x.change(p, q), was.wooer(p, 0));
        his("changed back", x, p, Check.row(was, p), Check.ages(was, p));
    }

    private static void whoIsInTheFirstSeat() {
        check.sentence("Two change SEATS: KIND of who is in the first one then.");
        LastTongue x = Check.laid("t1;w1,9,-;w2,9,-;w3,9,-;");
        check.due("change(0, 2)", x.change(0, 2), 3);
        check.due("change(2, 0)", x.change(2, 0), 3);
        check.due("change(2, 1)", x.change(2, 1), 2);
        check.due("change(1, 0)", x.change(1, 0), 1);
    }

    private static void notWithHimself() {
        check.sentence("BAD (alike, too).");
        LastTongue x = Check.laid("t1;w0,9,1;w0,9,1;");
        check.bad(x, "change", new int[][] {{0, 0}, {1, 1}, {2, 2}, {-1, -1}, {2, 0}, {0, 2}, {-1, 0}, {0, -1}, {1, 2}, {1, -1}});
        check.due("the last with the first", x.change(1, 0), 0);
        LastTongue one = Check.laid("t1;w0,9,1;");
        check.bad(one, "change", new int[][] {{0, 0}, {0, 1}, {1, 0}});
    }

    private static void nothingToUndo() {
        check.sentence("UNDONE: how many more can be. NO.");
        LastTongue x = new LastTongue();
        check.due("a new object", x.undo(), NO);
        x.lesson(0, 0);
        check.due("one act", x.undo(), 0);
        check.due("then none", x.undo(), NO);
        check.due("can be undone", x.count(8), 0);
        x.lesson(0, 0);
        x.lesson(0, 1);
        check.due("an act behind an undone one", x.undo(), 1);
        check.due("and the last one", x.undo(), 0);
    }

    private static void theLastEight() {
        check.sentence("the last 8 can be");
        for (int acts = 1; acts <= 26; acts++) {
            LastTongue x = Check.laid("t1;w0,30,1;");
            for (int i = 0; i < acts; i++) {
                x.pass(1);
            }
            int can = Math.min(acts, 8);
            check.due(acts + " acts", x.count(8), can);
            for (int left = can - 1; left >= 0; left--) {
                check.due(acts + " acts, undo()", x.undo(), left);
                check.due(acts + " acts, days", x.count(3), acts - can + left);
                check.due(acts + " acts, how old", x.word(0, 0, 1), acts - can + left);
            }
            check.due(acts + " acts, one more", x.undo(), NO);
            check.due(acts + " acts, days stay", x.count(3), acts - can);
        }
        LastTongue y = Check.laid("t1;w0,30,1;");
        for (int i = 0; i < 8; i++) {
            y.pass(1);
        }
        y.undo();
        y.undo();
        y.undo();
        y.pass(2);
        check.due("five and one", y.count(8), 6);
        check.due("days", y.count(3), 7);
        y.undo();
        check.due("days then", y.count(3), 5);
    }

    private static void daysOfOneTimeAreOne() {
        check.sentence("all that go by at one time are one");
        LastTongue x = Check.laid("t1;w0,30,1;");
        x.pass(24);
        x.pass(1);
        check.due("two acts", x.count(8), 2);
        x.undo();
        check.due("one day undone", x.count(3), 24);
        x.undo();
        check.due("24 days undone", x.count(3), 0);
        check.due("new again", x.word(0, 0, 1), 0);
    }

    private static void eachActIsUndoneWhole() {
        check.sentence("UNDONE are the latest of these, of LESSONS, DAYS");
        String text = "t12;w0,5,5-;w2,4,--;w1,3,1-;s1;";
        Picture.Steps start = x -> {
            Check.lay(x, text);
            x.hear(0, 1, 1);
        };
        Picture.Steps[] acts = {x -> x.lesson(1, 1), x -> x.pass(3), x -> x.mend(0, 0), x -> x.change(2, 0)};
        for (Picture.Steps act : acts) {
            check.same("as ahead of it", Picture.of(x -> {
                start.on(x);
                act.on(x);
                x.undo();
            }), Picture.of(start));
        }
        check.same("all of them", Picture.of(x -> {
            start.on(x);
            for (Picture.Steps act : acts) {
                act.on(x);
            }
            for (int i = 0; i < acts.length; i++) {
                x.undo();
            }
        }), Picture.of(start));
    }

    private static void refusedIsNotUndone() {
        check.sentence("nothing changes then");
        LastTongue x = Check.laid("t1;w0,9,1;");
        x.lesson(0, 1);
        x.pass(25);
        x.mend(0, 0);
        x.mend(1, 0);
        x.change(0, 0);
        x.undo();
        check.due("nothing to undo", x.count(8), 0);
        check.due("not a day", x.count(3), 0);
    }

    private static void rightIsAsItSounds() {
        check.sentence("RIGHT is a WORD that one has as it SOUNDS.");
        for (int way = 0; way <= 9; way++) {
            for (int sound = 0; sound <= 9; sound++) {
                LastTongue x = Check.laid("t" + sound + ";w0,9," + way + ";");
                check.due(way + " for " + sound, x.wooer(0, 3), way == sound ? 1 : 0);
            }
        }
        check.due("none for 0", Check.laid("t0;w0,9,-;").wooer(0, 3), 0);
    }
}
