/** Promises 1 to 8: a new object, the text and its fault, what is laid, and what is told of it. */
public final class TonguesTest {
    private static final int BAD = LastTongue.BAD, NO = LastTongue.NO, FULL = LastTongue.FULL, NONE = LastTongue.NONE;
    private static final Check check = new Check();

    public static void main(String[] args) {
        newObject();
        write();
        wipe();
        faultOfTongues();
        faultOfWooers();
        faultOfSpeakers();
        faultChangesNothing();
        lay();
        layForgets();
        layOverMore();
        sound();
        wooer();
        word();
        check.close("TonguesTest");
    }

    private static void newObject() {
        LastTongue x = new LastTongue();
        int[] want = {8, 5, 4, 0, 0, 6, 8, 0, 0, 0, 0};
        for (int what = 0; what < want.length; what++) {
            check.due("promise 1: count(" + what + ")", x.count(what), want[what]);
        }
        check.rows("promise 1", x, "3---4---", "-7------", "---1-9--", "37-6----", "--------");
        int[] kinds = {0, 1, 2, 3, 0};
        int[] memories = {5, 9, 3, 12, 8};
        int[] sounds = {3, 7, 1, 0, 4, 9, 2, 5};
        for (int p = 0; p < 5; p++) {
            check.due("promise 1: kind of " + p, x.wooer(p, 0), kinds[p]);
            check.due("promise 1: memory of " + p, x.wooer(p, 1), memories[p]);
        }
        for (int w = 0; w < 8; w++) {
            check.due("promise 1: sound " + w, x.sound(w), sounds[w]);
        }
        check.due("promise 1: wipe()", x.wipe(), 0);
        check.due("promise 1: fault()", x.fault(), NONE);
        check.due("promise 1: lay()", x.lay(), NO);
        check.due("promise 1: undo()", x.undo(), NO);
        check.due("promise 1: back()", x.back(), NO);
        check.due("promise 1: which()", x.which(), 31);
    }

    private static void write() {
        LastTongue x = new LastTongue();
        int[] bad = {31, 127, 0, -1, 10, 255, Integer.MIN_VALUE, Integer.MAX_VALUE};
        for (int letter : bad) {
            check.due("promise 2: write(" + letter + ")", x.write(letter), BAD);
        }
        check.due("promise 2: length", x.count(10), 0);
        check.due("promise 2: write(32)", x.write(32), 1);
        check.due("promise 2: write(126)", x.write(126), 2);
        for (int length = 3; length <= 200; length++) {
            check.due("promise 2: write(116)", x.write(116), length);
        }
        check.due("promise 2: one more", x.write(116), FULL);
        check.due("promise 2: bad and full", x.write(127), BAD);
        check.due("promise 2: length then", x.count(10), 200);
        x.wipe();
        check.due("promise 2: again", x.write(59), 1);
    }

    private static void wipe() {
        LastTongue x = new LastTongue();
        x.write('t');
        x.write('1');
        x.write(';');
        check.due("promise 3: wipe()", x.wipe(), 3);
        check.due("promise 3: wipe() again", x.wipe(), 0);
        check.due("promise 3: length", x.count(10), 0);
        check.due("promise 3: the wooers stay", x.count(1), 5);
        check.due("promise 3: nothing is left of it", x.fault(), NONE);
        check.due("promise 3: as it was new", Check.lay(x, "t9;w0,1,9;"), 1);
    }

    private static void faults(String[] texts, int due) {
        for (String text : texts) {
            check.due("promise 4: fault of " + text, Check.fault(new LastTongue(), text), due);
        }
    }

    private static void faultOfTongues() {
        faults(new String[] {"", "t3;", "t12345678;", "t3;t45;", "t0;t9;t11111111;"}, NONE);
        faults(new String[] {"t", "t;", "t3", "t123456789;", "t3a;", "t-;", "t3,4;", "t 3;", "T3;", "x", ";", " t3;",
            "3;", "t3 ;", "t3t4;"}, 0);
        faults(new String[] {"t3;x;y;", "t3; t4;", "t3;;", "t3;t;", "t3;t4", "t3;t123456789;t;"}, 3);
        check.due("promise 4: a tongue behind a speaker", Check.fault(new LastTongue(), "s4;t3;"), 3);
        check.due("promise 4: a tongue behind a wooer", Check.fault(new LastTongue(), "t3;w0,1,-;t4;"), 10);
        check.due("promise 4: a tongue behind both", Check.fault(new LastTongue(), "t3;t4;s4;t5;"), 9);
    }

    private static void faultOfWooers() {
        faults(new String[] {"t3;w0,1,-;", "t3;w3,30,9;", "t3;w00,01,5;", "t3;w03,09,0;", "t34;w2,10,-9;",
            "t12345678;w1,7,1-3-5-7-;", "t345;t45;w0,1,34;"}, NONE);
        faults(new String[] {"w0,1,-;", "w0,1,;"}, 0);
        faults(new String[] {"t3;w4,1,-;", "t3;w10,1,-;", "t3;w0,0,-;", "t3;w0,00,-;", "t3;w0,31,-;", "t3;w0,99,-;",
            "t3;w0,100,-;", "t3;w000,1,-;", "t3;w0,001,-;", "t3;w,1,-;", "t3;w0,,-;", "t3;w0,1,;", "t3;w0,1;", "t3;w0;",
            "t3;w0,1,--;", "t3;w0,1,33;", "t3;w0,1,a;", "t3;w0,1,-", "t3;w0,1,-,", "t3;w-1,1,-;", "t3;w0;1,-;",
            "t3;w0,1;-;", "t3;W0,1,-;", "t3;w 0,1,-;", "t3;w0,1, -;", "t3;w", "t3;w0", "t3;w0,", "t3;w0,1", "t3;w0,1,",
            "t3;w0,30,-,;", "t3;w0,1,- ;"}, 3);
        check.due("promise 4: five", Check.fault(new LastTongue(),
            "t3;w0,1,-;w0,1,-;w0,1,-;w0,1,-;w0,1,-;s1;"), NONE);
        check.due("promise 4: the sixth", Check.fault(new LastTongue(),
            "t3;w0,1,-;w0,1,-;w0,1,-;w0,1,-;w0,1,-;w0,1,-;s;"), 38);
        check.due("promise 4: as many as the last tongue", Check.fault(new LastTongue(), "t3;t45;w0,1,3;"), 7);
    }

    private static void faultOfSpeakers() {
        faults(new String[] {"s1;", "s8;", "s01;", "s08;", "s3;s4;", "t3;s8;w0,1,-;s2;"}, NONE);
        faults(new String[] {"s;", "s0;", "s00;", "s9;", "s10;", "s008;", "s-1;", "s1", "s", "s1,;", "s1,2;", "S1;",
            "s 1;", "sa;"}, 0);
        check.due("promise 4: the first of several", Check.fault(new LastTongue(), "s4;s0;s9;"), 3);
    }

    private static void faultChangesNothing() {
        LastTongue x = new LastTongue();
        check.due("promise 4: fault", Check.fault(x, "t12;w0,1,12;s1;"), NONE);
        check.due("promise 4: words stay", x.count(0), 8);
        check.due("promise 4: wooers stay", x.count(1), 5);
        check.due("promise 4: S stays", x.count(2), 4);
        check.due("promise 4: the text stays", x.count(10), 15);
    }

    private static void lay() {
        LastTongue x = new LastTongue();
        String[] not = {"", "t3;", "s4;", "t3;s4;", "t3;w0,1,-", "t3;w0,1,-;x", "w0,1,-;"};
        for (String text : not) {
            check.due("promise 5: lay of " + text, Check.lay(x, text), NO);
        }
        check.rows("promise 5: nothing changed", x, "3---4---", "-7------", "---1-9--", "37-6----", "--------");
        check.due("promise 5: one", Check.lay(x, "t12;w2,7,-9;"), 1);
        check.due("promise 5: the text stays", x.count(10), 12);
        check.due("promise 5: S untold", x.count(2), 3);
        check.rows("promise 5", x, "-9");
        check.due("promise 5: laid once more", x.lay(), 1);
        check.due("promise 5: the last S", Check.lay(x, "t1;s8;w0,1,1;s2;w3,30,-;s5;"), 2);
        check.due("promise 5: S", x.count(2), 5);
        check.due("promise 5: the last tongue", Check.lay(x, "t12345678;t1;t567;w0,1,5-7;"), 1);
        check.due("promise 5: its words", x.count(0), 3);
        check.due("promise 5: its sound", x.sound(2), 7);
        check.due("promise 5: five", Check.lay(x, "t1;w0,1,1;w1,2,-;w2,3,1;w3,4,2;w00,05,3;"), 5);
        check.rows("promise 5: five", x, "1", "-", "1", "2", "3");
        check.due("promise 5: memory of two figures", x.wooer(4, 1), 5);
    }

    private static void layForgets() {
        LastTongue x = new LastTongue();
        x.pass(3);
        x.keep();
        x.lesson(0, 0);
        x.hear(0, 0, 0);
        check.due("promise 5: nothing to lay", x.lay(), NO);
        int[] before = {3, 1, 2, 1};
        int[] whats = {3, 7, 8, 9};
        for (int i = 0; i < 4; i++) {
            check.due("promise 5: NO leaves count " + whats[i], x.count(whats[i]), before[i]);
        }
        Check.lay(x, "t1;w0,9,1;");
        for (int what : whats) {
            check.due("promise 5: count " + what, x.count(what), 0);
        }
        check.due("promise 5: nothing to undo", x.undo(), NO);
        check.due("promise 5: nothing kept", x.back(), NO);
        check.due("promise 5: nothing heard", x.forget(), 0);
        check.same("promise 5: at first 0 days old", Check.ages(x, 0), "0");
        x.pass(2);
        x.lay();
        check.same("promise 5: 0 days old again", Check.ages(x, 0), "0");
    }

    /** What was told of more words and more wooers shines through nowhere. */
    private static void layOverMore() {
        String row = "w1,9,02345678;";
        String[] less = {"t9;w0,9,-;w0,9,-;s1;", "t9;w0,9,9;w0,9,-;s1;"};
        for (int i = 0; i < 2; i++) {
            LastTongue x = Check.laid("t12345678;" + row + row + row + row + row + "s1;");
            x.pass(3);
            check.due("promise 5: less", Check.lay(x, less[i]), 2);
            int[] want = {1, 2, 1, 0, i, i, i, 0, 0, 0};
            for (int what = 0; what < want.length; what++) {
                check.due("promise 5: less, count " + what, x.count(what), want[what]);
            }
            check.rows("promise 5: less", x, i == 0 ? "-" : "9", "-");
            check.due("promise 5: less, two(0)", x.two(0), 1);
            check.due("promise 5: less, two(1)", x.two(1), i);
            check.due("promise 5: less, tests(0)", x.tests(0), i == 0 ? NONE : 1);
            check.due("promise 5: less, other()", x.other(), 0);
            check.due("promise 5: less, mends(0)", x.mends(0), NONE);
            check.due("promise 5: less, which()", x.which(), 3);
            check.due("promise 5: less, sound(1)", x.sound(1), BAD);
            check.due("promise 5: less, wooer(2, 0)", x.wooer(2, 0), BAD);
            x.hear(0, 9, 1);
            check.due("promise 5: less, which() then", x.which(), 3 * i);
            check.due("promise 5: less, pass(1)", x.pass(1), 2 * i);
            check.due("promise 5: less, year()", x.year(3, 1, 1), 2 * i);
        }
        LastTongue x = Check.laid("t12345678;" + row + row + row + row + row + "s1;");
        Check.lay(x, "t9;w0,9,0;w0,9,9;s1;");
        check.due("promise 5: less, other() of one and one", x.other(), 0);
    }

    private static void sound() {
        LastTongue x = Check.laid("t90;w0,1,--;");
        check.due("promise 6: sound(0)", x.sound(0), 9);
        check.due("promise 6: sound(1)", x.sound(1), 0);
        check.due("promise 6: sound(2)", x.sound(2), BAD);
        check.due("promise 6: sound(-1)", x.sound(-1), BAD);
        check.due("promise 6: sound(8)", x.sound(8), BAD);
        check.due("promise 6: sound(max)", x.sound(Integer.MAX_VALUE), BAD);
    }

    private static void wooer() {
        LastTongue x = Check.laid("t1234;w3,30,12-5;w1,1,1234;s3;");
        int[][] want = {{3, 30, 11, 3, 0}, {1, 1, 15, 15, 1}};
        for (int p = 0; p < 2; p++) {
            for (int what = 0; what < 5; what++) {
                check.due("promise 7: wooer(" + p + ", " + what + ")", x.wooer(p, what), want[p][what]);
            }
        }
        check.due("promise 7: what 5", x.wooer(0, 5), BAD);
        check.due("promise 7: what -1", x.wooer(0, -1), BAD);
        check.due("promise 7: p 2", x.wooer(2, 0), BAD);
        check.due("promise 7: p -1", x.wooer(-1, 0), BAD);
        x.lesson(0, 2);
        check.due("promise 7: words then", x.wooer(0, 2), 15);
        check.due("promise 7: right then", x.wooer(0, 3), 7);
        check.due("promise 7: a speaker by just as many", x.wooer(0, 4), 1);
        LastTongue many = Check.laid("t12;w0,9,12;s3;");
        check.due("promise 7: S beyond the words", many.wooer(0, 4), 0);
    }

    private static void word() {
        LastTongue x = Check.laid("t12;w0,9,-7;");
        check.due("promise 8: he has it not", x.word(0, 0, 0), NONE);
        check.due("promise 8: how old is none", x.word(0, 0, 1), NONE);
        check.due("promise 8: how", x.word(0, 1, 0), 7);
        check.due("promise 8: how old", x.word(0, 1, 1), 0);
        x.pass(4);
        check.due("promise 8: how old then", x.word(0, 1, 1), 4);
        int[][] bad = {{1, 0, 0}, {-1, 0, 0}, {0, 2, 0}, {0, -1, 0}, {0, 0, 2}, {0, 0, -1}, {0, 8, 0}, {5, 0, 0}};
        for (int[] b : bad) {
            check.due("promise 8: word(" + b[0] + ", " + b[1] + ", " + b[2] + ")", x.word(b[0], b[1], b[2]), BAD);
        }
    }
}
