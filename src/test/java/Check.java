import java.util.Arrays;

/** What the tests have in common: counting, and telling what is not as due. */
final class Check {
    private int right = 0;
    private int wrong = 0;
    private String told = "";

    /** The sentence of the document that all that follows is held against. */
    void sentence(String words) {
        told = "\"" + words + "\": ";
    }

    void due(String what, long got, long want) {
        if (got == want) {
            right++;
            return;
        }
        wrong++;
        System.out.println(told + what + " answered " + got + ", due is " + want);
    }

    void holds(String what, boolean so) {
        due(what, so ? 1 : 0, 1);
    }

    /** A call of the face by its name; tells where it stands if it does not answer what is due. */
    void answers(LastTongue x, int want, String name, int... numbers) {
        int got = Picture.call(x, name, numbers);
        due(name + Arrays.toString(numbers) + (got == want ? "" : " of " + Picture.look(x)), got, want);
    }

    void bad(LastTongue x, String name, int[]... calls) {
        for (int[] numbers : calls) {
            answers(x, LastTongue.BAD, name, numbers);
        }
    }

    /** Writes the text on a clean page and lays it: what lay() answers. */
    static int lay(LastTongue x, String text) {
        write(x, text);
        return x.lay();
    }

    static int fault(LastTongue x, String text) {
        write(x, text);
        return x.fault();
    }

    static LastTongue laid(String text) {
        LastTongue x = new LastTongue();
        int answer = lay(x, text);
        if (answer < 0) {
            throw new IllegalStateException(text + " is not laid: " + answer);
        }
        return x;
    }

    static void write(LastTongue x, String text) {
        x.wipe();
        for (int i = 0; i < text.length(); i++) {
            x.write(text.charAt(i));
        }
    }

    /** How a wooer has all words, a sign for each, as a text tells them. */
    static String row(LastTongue x, int p) {
        StringBuilder row = new StringBuilder();
        for (int w = 0; w < x.count(0); w++) {
            int way = x.word(p, w, 0);
            row.append(way == LastTongue.NONE ? "-" : "" + way);
        }
        return row.toString();
    }

    /** How old all words of a wooer are, parted by blanks. */
    static String ages(LastTongue x, int p) {
        StringBuilder row = new StringBuilder();
        for (int w = 0; w < x.count(0); w++) {
            int age = x.word(p, w, 1);
            row.append(w == 0 ? "" : " ").append(age == LastTongue.NONE ? "-" : "" + age);
        }
        return row.toString();
    }

    void rows(String what, LastTongue x, String... want) {
        for (int p = 0; p < want.length; p++) {
            same(what + ", words of " + p, row(x, p), want[p]);
        }
    }

    void same(String what, String got, String want) {
        if (got.equals(want)) {
            right++;
            return;
        }
        wrong++;
        System.out.println(told + what + ": " + got + ", due is " + want);
    }

    /** The closing line; ends the program with 1 if anything was wrong. */
    void close(String name) {
        System.out.println(name + ": " + right + " passed, " + wrong + " failed");
        if (wrong != 0) {
            System.exit(1);
        }
    }
}
