/** Term 1 and promises 1 to 8: a test for each sentence that names a bound, just inside of it and just outside. */
public final class TextBoundsTest {
    private static final int BAD = LastTongue.BAD, NO = LastTongue.NO, FULL = LastTongue.FULL, NONE = LastTongue.NONE;
    private static final String FIGURES = "0123456789";
    private static final String FIVE = "w0,9,1;w0,9,1;w0,9,1;w0,9,1;w0,9,1;";
    private static final Check check = new Check();

    public static void main(String[] args) {
        aTextOfTwoHundredLetters();
        whatTheTwoHundredthLetterTells();
        lettersOfAscii();
        howLongItWas();
        eachALetter();
        partedByCommas();
        aSemicolonBehindIt();
        oneOrTwoFigures();
        oneNextToTheOther();
        oneToEightSounds();
        soundsAreFigures();
        theLastTongueTold();
        noOtherItemAheadOfATongue();
        kinds();
        memories();
        asManySignsAsWords();
        wordsAreToldAhead();
        signsOfARow();
        fiveWooersAtMost();
        roundTheTableInThisOrder();
        oneToEightRight();
        rightOrMore();
        threeWithout();
        theLastNeedCounts();
        theFirstLetterOfTheFirstFault();
        noFault();
        wordsAndAWooerAtLeast();
        atFirst();
        laidAnew();
        laidOverMore();
        soundsOfWords();
        whatIsToldOfAWooer();
        whatIsToldOfAWord();
        check.close("TextBoundsTest");
    }

    private static void faultIs(String text, int due) {
        check.due("fault of " + text, Check.fault(new LastTongue(), text), due);
    }

    /** All letters that can be written, one after the other between head and tail: only some are so. */
    private static void onlySigns(String head, String tail, String so, int due) {
        for (char sign = 32; sign <= 126; sign++) {
            faultIs(head + sign + tail, so.indexOf(sign) >= 0 ? NONE : due);
        }
    }

    private static void faults(String head, String tail, int due, String... between) {
        for (String one : between) {
            faultIs(head + one + tail, due);
        }
    }

    private static void aTextOfTwoHundredLetters() {
        check.sentence("A TEXT is letters (200 at most)");
        LastTongue x = new LastTongue();
        for (int length = 1; length <= 200; length++) {
            check.due("the letter of that number", x.write('s'), length);
        }
        check.due("the letter behind the last one", x.write('s'), FULL);
        check.due("how long it is then", x.count(10), 200);
        check.due("how long it was", x.wipe(), 200);
        check.due("the first letter of the next one", x.write('s'), 1);
    }

    private static void whatTheTwoHundredthLetterTells() {
        check.sentence("A TEXT is letters (200 at most)");
        String row = "w0,9,12345678;";
        String wooers = row + row + row + row + row;
        String whole = "t12345678;" + wooers + "s1;".repeat(39) + "s7;";
        check.due("its letters", whole.length(), 200);
        LastTongue x = new LastTongue();
        check.due("200 letters", Check.lay(x, whole), 5);
        check.due("the last item of 200 letters", x.count(2), 7);
        LastTongue over = new LastTongue();
        String longer = "t12345678;w0,10,12345678;" + wooers.substring(14) + "s1;".repeat(39) + "s7;";
        check.due("a letter more", Check.fault(over, longer), 198);
        check.due("a letter more is not laid", over.lay(), NO);
        String last = "t1234567;" + wooers.replace("8;", ";") + "s1;".repeat(39) + "s01;s01;x";
        check.due("its letters", last.length(), 200);
        faultIs(last.substring(0, 199), NONE);
        faultIs(last, 199);
    }

    private static void lettersOfAscii() {
        check.sentence("A letter (32 to 126, as in ASCII) comes behind THE TEXT: how long it is. BAD; FULL.");
        LastTongue x = new LastTongue();
        int[] bad = {31, 127, 0, -1, 128, 256 + 't', Integer.MIN_VALUE, Integer.MAX_VALUE};
        for (int letter : bad) {
            check.due("write(" + letter + ")", x.write(letter), BAD);
        }
        for (int letter = 32; letter <= 126; letter++) {
            check.due("write(" + letter + ")", x.write(letter), letter - 31);
        }
        check.due("how long it is", x.count(10), 95);
        LastTongue behind = new LastTongue();
        for (char letter : "t12;w0,9,2-;".toCharArray()) {
            behind.write(letter);
        }
        check.due("each came behind the others", behind.lay(), 1);
        check.rows("each came behind the others", behind, "2-");
    }

    private static void howLongItWas() {
        check.sentence("THE TEXT is empty: how long it was.");
        LastTongue x = new LastTongue();
        check.due("of an empty one", x.wipe(), 0);
        x.write(' ');
        check.due("of one letter", x.wipe(), 1);
        check.due("then", x.count(10), 0);
        check.due("no letter of it is left", x.fault(), NONE);
    }

    private static void eachALetter() {
        check.sentence("ITEMS one behind the other, each a letter, then what it tells");
        onlySigns("", "2;", "ts", 0);
        onlySigns("t1;", "2;", "ts", 3);
        onlySigns("t1;", "2,3,1;", "w", 3);
        onlySigns("t1;w0,9,1;", "2;", "s", 10);
        faults("", "", 0, "t", "s", "w", "t1", "1", ";");
    }

    private static void partedByCommas() {
        check.sentence("parted by ,");
        onlySigns("t1;w0", "9,1;", ",", 3);
        onlySigns("t1;w0,9", "1;", ",", 3);
        faults("t1;", "", 3, "w,0,9,1;", "w0,,9,1;", "w0,9,,1;", "w0,9,1,;", "w091;", "w0,91;", "w09,1;");
    }

    private static void aSemicolonBehindIt() {
        check.sentence("and a ; behind it");
        onlySigns("t1", "", ";", 0);
        onlySigns("s1", "", ";", 0);
        onlySigns("t1;w0,9,1", "", ";", 3);
        faults("", "", 0, "t1", "s1", "t1t1;", "s1s1;", "t1 ;", "s1 ;");
        faults("t1;", "", 3, "w0,9,1", "w0,9,1w0,9,1;", ";", "t1", "s1", "w0,9,1 ;");
        faultIs("t1;w0,9,1;;", 10);
    }

    private static void oneOrTwoFigures() {
        check.sentence("numbers: one or two figures");
        faults("t1;w", ",9,1;", NONE, "0", "00", "3", "03");
        faults("t1;w", ",9,1;", 3, "", "000", "003", "300", " 0", "0 ", "+0", "-0", "a", "0a", "a0", "/", ":", "0/", "0:");
        faults("t1;w0,", ",1;", NONE, "1", "01", "9", "09", "10", "30");
        faults("t1;w0,", ",1;", 3, "", "001", "010", "100", " 1", "1 ", "+1", "-1", "a", "1a", "a1", "/", ":", "1/", "1:");
        faults("s", ";", NONE, "1", "01", "8", "08");
        faults("s", ";", 0, "", "001", "010", "100", " 1", "1 ", "+1", "-1", "a", "0a", "a1", "/", ":", "0/", "0:");
    }

    private static void oneNextToTheOther() {
        check.sentence("a row: one sign for each, one next to the other");
        faults("t", ";", 0, "1,2", "1 2", " 12", "12 ");
        faults("t12;w0,9,", ";", 4, "1,2", "1 2", " 12", "12 ", "-,-", "1;2", "01,02");
        faultIs("t12;w0,9,12;", NONE);
    }

    private static void oneToEightSounds() {
        check.sentence("WORDS 0, 1, .. of SOUNDS R (a row of 1 to 8");
        faults("t", ";", 0, "", "123456789", "1234567890", "12345678901234567");
        for (int words = 1; words <= 8; words++) {
            String row = "12345678".substring(0, words);
            faultIs("t" + row + ";", NONE);
            LastTongue x = Check.laid("t" + row + ";w0,9," + row + ";");
            check.due("words of " + row, x.count(0), words);
            check.due("the last sound of " + row, x.sound(words - 1), words);
            check.due("behind the last sound of " + row, x.sound(words), BAD);
        }
    }

    private static void soundsAreFigures() {
        check.sentence("each 0 to 9");
        onlySigns("t", ";", FIGURES, 0);
        onlySigns("t", "1;", FIGURES, 0);
        LastTongue x = Check.laid("t01234567;w0,9,--------;");
        LastTongue y = Check.laid("t89;w0,9,--;");
        for (int sound = 0; sound <= 9; sound++) {
            check.due("sound " + sound, sound < 8 ? x.sound(sound) : y.sound(sound - 8), sound);
        }
    }

    private static void theLastTongueTold() {
        check.sentence("the last one told");
        LastTongue less = Check.laid("t12;t3;w0,9,3;");
        check.due("words", less.count(0), 1);
        check.due("the sound", less.sound(0), 3);
        check.due("right", less.wooer(0, 3), 1);
        check.due("more words", Check.laid("t3;t12;w0,9,12;").count(0), 2);
        check.due("of three", Check.laid("t1;t2;t3;w0,9,-;").sound(0), 3);
        faultIs("t12;t3;w0,9,12;", 7);
        faultIs("t3;t12;w0,9,3;", 7);
    }

    private static void noOtherItemAheadOfATongue() {
        check.sentence("no other ITEM ahead of it but t");
        faultIs("t1;t2;t3;t4;", NONE);
        faultIs("s1;t1;", 3);
        faultIs("t1;s1;t1;", 6);
        faultIs("t1;w0,9,1;t1;", 10);
        faultIs("t1;w0,9,1;s1;t1;", 13);
        faultIs("t1;t2;s1;w0,9,1;t1;", 16);
    }

    private static void kinds() {
        check.sentence("a WOOER of KIND K (0 PLAIN, 1 DEAF, 2 QUICK, 3 PROUD)");
        for (int kind = 0; kind <= 3; kind++) {
            check.due("kind " + kind, Check.laid("t1;w" + kind + ",9,1;").wooer(0, 0), kind);
        }
        faults("t1;w", ",9,1;", 3, "-1", "4", "9", "04", "10", "13", "30", "99");
    }

    private static void memories() {
        check.sentence("who REMEMBERS for M (1 to 30) DAYS");
        for (int memory = 1; memory <= 30; memory++) {
            check.due("memory " + memory, Check.laid("t1;w0," + memory + ",1;").wooer(0, 1), memory);
        }
        faults("t1;w0,", ",1;", 3, "-1", "0", "00", "31", "32", "40", "99");
    }

    private static void asManySignsAsWords() {
        check.sentence("a row, as many signs as there are WORDS");
        String signs = "1-3-5-7-9";
        for (int words = 1; words <= 8; words++) {
            String head = "t" + "12345678".substring(0, words) + ";";
            faultIs(head + "w0,9," + signs.substring(0, words - 1) + ";", head.length());
            faultIs(head + "w0,9," + signs.substring(0, words) + ";", NONE);
            faultIs(head + "w0,9," + signs.substring(0, words + 1) + ";", head.length());
        }
    }

    private static void wordsAreToldAhead() {
        check.sentence("these are told ahead, without any it is not so");
        faults("", "", 0, "w0,9,;", "w0,9,1;", "w0,9,-;", "w0,9,1;t1;", "w0,9,;t1;");
        faults("s1;", "", 3, "w0,9,;", "w0,9,1;", "w0,9,-;");
        faultIs("t1;w0,9,1;", NONE);
        LastTongue x = Check.laid("t1;w0,9,1;");
        check.due("those of another text are none of this one", Check.fault(x, "w0,9,1;"), 0);
        check.due("nor is it laid by them", x.lay(), NO);
    }

    private static void signsOfARow() {
        check.sentence("0 to 9 the SOUND, - none");
        onlySigns("t1;w0,9,", ";", FIGURES + "-", 3);
        onlySigns("t12;w0,9,1", ";", FIGURES + "-", 4);
        for (int way = 0; way <= 9; way++) {
            check.due("he has it as " + way, Check.laid("t1;w0,9," + way + ";").word(0, 0, 0), way);
        }
        check.due("he has it not", Check.laid("t1;w0,9,-;").word(0, 0, 0), NONE);
    }

    private static void fiveWooersAtMost() {
        check.sentence("5 at most");
        check.due("one", Check.laid("t1;" + FIVE.substring(0, 7)).count(1), 1);
        check.due("five", Check.laid("t1;" + FIVE).count(1), 5);
        faultIs("t1;" + FIVE + "s1;", NONE);
        faultIs("t1;" + FIVE + "w0,9,1;", 38);
        faultIs("t1;" + FIVE + "s1;w0,9,1;", 41);
        LastTongue x = new LastTongue();
        check.due("six", Check.lay(x, "t1;" + FIVE + "w0,9,1;"), NO);
    }

    private static void roundTheTableInThisOrder() {
        check.sentence("0, 1, .., round the table in this order");
        LastTongue x = Check.laid("t1;w0,1,-;w1,2,-;s1;w2,3,-;w3,4,-;w0,5,-;");
        for (int p = 0; p < 5; p++) {
            check.due("memory of " + p, x.wooer(p, 1), p + 1);
        }
        LastTongue round = Check.laid("t1;w0,9,-;w0,9,-;w0,9,-;w0,9,-;w0,9,1;");
        round.pass(1);
        check.rows("behind the last one the first", round, "1", "-", "-", "-", "1");
        round.pass(1);
        check.rows("behind the first one the second", round, "1", "1", "-", "-", "1");
    }

    private static void oneToEightRight() {
        check.sentence("a SPEAKER has S (1 to 8) WORDS right");
        for (int need = 1; need <= 8; need++) {
            check.due("S", Check.laid("t1;s" + need + ";w0,9,1;").count(2), need);
        }
        faults("s", ";", 0, "-1", "0", "00", "9", "09", "10", "18", "80", "99");
        check.due("8 of 8", Check.laid("t12345678;w0,9,12345678;s8;").wooer(0, 4), 1);
        check.due("7 of 8", Check.laid("t12345678;w0,9,12345679;s8;").wooer(0, 4), 0);
        check.due("1 of 1", Check.laid("t1;w0,9,1;s1;").wooer(0, 4), 1);
        check.due("0 of 1", Check.laid("t1;w0,9,2;s1;").wooer(0, 4), 0);
    }

    private static void rightOrMore() {
        check.sentence("WORDS right, or more");
        String[] rows = {"---", "1--", "12-", "123", "543", "1-4"};
        int[] due = {0, 0, 1, 1, 0, 0};
        for (int i = 0; i < rows.length; i++) {
            check.due("two of " + rows[i], Check.laid("t123;w0,9," + rows[i] + ";s2;").wooer(0, 4), due[i]);
        }
    }

    private static void threeWithout() {
        check.sentence("3 without");
        check.due("S", Check.laid("t1234;w0,9,----;").count(2), 3);
        check.due("two right", Check.laid("t1234;w0,9,12--;").wooer(0, 4), 0);
        check.due("three right", Check.laid("t1234;w0,9,123-;").wooer(0, 4), 1);
        LastTongue x = Check.laid("t1234;w0,9,12--;s1;");
        Check.lay(x, "t1234;w0,9,12--;");
        check.due("what was told of another tongue is over", x.count(2), 3);
    }

    private static void theLastNeedCounts() {
        check.sentence("of several such the last one counts");
        check.due("of two", Check.laid("t1;s8;w0,9,1;s1;").count(2), 1);
        check.due("of three", Check.laid("t1;s1;s2;w0,9,1;s5;").count(2), 5);
        check.due("a later one that is more", Check.laid("t1;w0,9,1;s1;s8;").wooer(0, 4), 0);
        faultIs("s1;s9;s2;", 3);
    }

    private static void theFirstLetterOfTheFirstFault() {
        check.sentence("FAULT: the place (from 0 on) of the first letter of the first ITEM that is not so.");
        faultIs("x", 0);
        faultIs("s4;x", 3);
        faultIs("t1;w0,9,x;", 3);
        faultIs("t1;w0,9,1;s12;", 10);
        faultIs("t1;w4,9,1;s9;t;", 3);
        faultIs("t12345678;t123456789;s0;", 10);
        faultIs("t1;w0,9,1;w0,31,1;w0,9,2", 10);
    }

    private static void noFault() {
        check.sentence("FAULT. NONE.");
        check.due("an empty one", new LastTongue().fault(), NONE);
        faults("", "", NONE, "", "s1;", "t1;", "t1;s1;", "t1;w0,9,1;");
    }

    private static void wordsAndAWooerAtLeast() {
        check.sentence("LAID is a TEXT without FAULT, of WORDS and a WOOER at least (NO else");
        String[] not = {"", "t1;", "s1;", "t1;s1;", "w0,9,1;", "t1;w0,9,1;x", "t1;w0,9,1", "xt1;w0,9,1;", "t1;x;w0,9,1;"};
        for (String text : not) {
            LastTongue x = new LastTongue();
            check.due("lay of " + text, Check.lay(x, text), NO);
            check.due("lay of " + text + ": letters", x.count(10), text.length());
            check.rows("lay of " + text, x, "3---4---", "-7------", "---1-9--", "37-6----", "--------");
        }
        LastTongue x = new LastTongue();
        check.due("just these", Check.lay(x, "t1;w0,9,1;"), 1);
        check.rows("just these", x, "1");
    }

    private static void atFirst() {
        check.sentence("at first t37104925;w0,5,3---4---;w1,9,-7------;w2,3,---1-9--;w3,12,37-6----;w0,8,--------;s4;");
        String text = "t37104925;w0,5,3---4---;w1,9,-7------;w2,3,---1-9--;w3,12,37-6----;w0,8,--------;s4;";
        check.same("all that can be seen", Picture.of(x -> { }), Picture.of(x -> {
            x.pass(2);
            Check.lay(x, text);
            x.wipe();
        }));
        LastTongue x = new LastTongue();
        check.due("as told, with that text", Check.lay(x, text), 5);
        check.sentence("As told; THE TEXT is empty.");
        check.due("letters", new LastTongue().count(10), 0);
        check.due("wiped", new LastTongue().wipe(), 0);
    }

    private static void laidAnew() {
        check.sentence("LAID: how many WOOERS; no DAY gone by, nothing HEARD, UNDONE, KEPT; THE TEXT stays. NO.");
        String text = "t12;w0,9,1-;w3,8,-2;w1,7,--;";
        Picture.Steps busy = x -> {
            x.lesson(1, 1);
            x.pass(24);
            x.keep();
            x.keep();
            x.hear(0, 3, 20);
            x.change(0, 1);
        };
        check.same("all that can be seen", Picture.of(x -> {
            busy.on(x);
            Check.lay(x, text);
        }), Picture.of(x -> Check.lay(x, text)));
        LastTongue x = new LastTongue();
        busy.on(x);
        check.due("how many", Check.lay(x, text), 3);
        int[] gone = {3, 7, 8, 9};
        for (int what : gone) {
            check.due("count(" + what + ")", x.count(what), 0);
        }
        check.due("letters", x.count(10), text.length());
        check.due("undo()", x.undo(), NO);
        check.due("back()", x.back(), NO);
        check.due("laid once more", x.lay(), 3);
        x.write('x');
        check.due("with a fault", x.lay(), NO);
    }

    /** What was told of more words and more wooers, by the text laid before or one only read, is all over. */
    private static void laidOverMore() {
        check.sentence("LAID: how many WOOERS; no DAY gone by, nothing HEARD, UNDONE, KEPT; THE TEXT stays. NO.");
        String row = "w1,9,02345678;";
        String more = "t12345678;" + row + row + row + row + row + "s1;";
        String[] less = {"t9;w0,9,-;w0,9,-;", "t9;w0,9,9;w0,9,-;s1;", "t98;w2,9,-5;w0,9,9-;w3,5,--;", "t9;w0,9,-;",
            "t9;w0,9,0;w0,9,9;s1;"};
        for (String text : less) {
            Picture.Steps once = x -> Check.lay(x, text);
            Picture.Steps over = x -> {
                Check.lay(x, more);
                Check.fault(x, more + "x");
                Check.lay(x, text);
            };
            check.same("over more", Picture.of(over), Picture.of(once));
            LastTongue x = Picture.behind(over);
            LastTongue y = Picture.behind(once);
            int[][] asked = {{0}, {1}};
            for (int[] what : asked) {
                String[] names = {"mends", "two", "tests"};
                for (String name : names) {
                    check.due(name + " over more", Picture.call(x, name, what), Picture.call(y, name, what));
                }
                check.due("year over more", x.year(3, 9, what[0]), y.year(3, 9, what[0]));
            }
            check.due("other over more", x.other(), y.other());
            check.due("pass over more", x.pass(1), y.pass(1));
            check.same("a day on", Check.row(x, 0), Check.row(y, 0));
        }
    }

    private static void soundsOfWords() {
        check.sentence("The SOUND of a WORD. BAD.");
        LastTongue all = Check.laid("t90123458;w0,9,--------;");
        check.due("the first of eight", all.sound(0), 9);
        check.due("the last of eight", all.sound(7), 8);
        check.due("behind the last of eight", all.sound(8), BAD);
        check.due("ahead of the first", all.sound(-1), BAD);
        LastTongue one = Check.laid("t0;w0,9,-;");
        check.due("the only one", one.sound(0), 0);
        check.due("behind the only one", one.sound(1), BAD);
    }

    private static void whatIsToldOfAWooer() {
        check.sentence("Of a WOOER: KIND (what = 0), M (1), WORDS that he has (2; bits), RIGHT (3; bits), 1 if a SPEAKER (4).");
        LastTongue all = Check.laid("t12345678;w0,1,--------;w1,2,12345678;w2,3,87654321;w3,30,1------8;w0,9,-2------;s2;");
        int[][] due = {{0, 1, 0, 0, 0}, {1, 2, 255, 255, 1}, {2, 3, 255, 0, 0}, {3, 30, 129, 129, 1}, {0, 9, 2, 2, 0}};
        for (int p = 0; p < 5; p++) {
            for (int what = 0; what <= 4; what++) {
                check.due("wooer(" + p + ", " + what + ")", all.wooer(p, what), due[p][what]);
            }
            check.due("wooer(" + p + ", 5)", all.wooer(p, 5), BAD);
            check.due("wooer(" + p + ", -1)", all.wooer(p, -1), BAD);
        }
        check.due("behind the fifth", all.wooer(5, 0), BAD);
        check.due("ahead of the first", all.wooer(-1, 0), BAD);
        LastTongue one = Check.laid("t1;w3,7,1;s1;");
        check.due("the only one", one.wooer(0, 0), 3);
        check.due("behind the only one", one.wooer(1, 0), BAD);
    }

    private static void whatIsToldOfAWord() {
        check.sentence("Of a WOOER and a WORD: how he has it (what = 0), how OLD it is (1). NONE: he has it not; BAD.");
        LastTongue x = Check.laid("t12345678;w0,30,0------9;w0,30,0------9;");
        x.pass(24);
        check.due("the first word", x.word(0, 0, 0), 0);
        check.due("the last word of the last wooer", x.word(1, 7, 0), 9);
        check.due("how old", x.word(1, 7, 1), 24);
        check.due("how is none", x.word(1, 6, 0), NONE);
        check.due("how old is none", x.word(1, 6, 1), NONE);
        int[][] bad = {{-1, 0, 0}, {2, 0, 0}, {0, -1, 0}, {0, 8, 0}, {0, 0, -1}, {0, 0, 2}, {1, 6, 2}, {1, 6, -1}};
        for (int[] b : bad) {
            check.due("word(" + b[0] + ", " + b[1] + ", " + b[2] + ")", x.word(b[0], b[1], b[2]), BAD);
        }
        LastTongue one = Check.laid("t1;w0,9,1;");
        check.due("the only word", one.word(0, 0, 0), 1);
        check.due("behind the only word", one.word(0, 1, 0), BAD);
        check.due("behind the only wooer", one.word(1, 0, 0), BAD);
    }
}
