import java.util.NoSuchElementException;

/** What the tests share: comparing answers with those that are due, and feeding a text. */
final class Due {
    static final int THROWN = Integer.MIN_VALUE;
    private static int wrong = 0;
    private static int checks = 0;
    private static String sentence = "";

    private Due() {
    }

    /** The sentence of the document that the answers asked for from now on are due by. */
    static void said(String words) {
        sentence = words.isEmpty() ? "" : "[" + words + "] ";
    }

    static void is(String what, long want, long got) {
        checks++;
        if (got != want) {
            wrong++;
            System.out.println(sentence + what + " answered " + got + ", due is " + want);
        }
    }

    /** How many answers were compared so far. */
    static int checks() {
        return checks;
    }

    static void yes(String what, boolean got) {
        is(what, 1, got ? 1 : 0);
    }

    static void no(String what, boolean got) {
        is(what, 0, got ? 1 : 0);
    }

    /** GLIDE, or THROWN for the NoSuchElementException that the document names. */
    static int glide(IceRun x, int kind, int hardness) {
        try {
            return x.glide(kind, hardness);
        } catch (NoSuchElementException e) {
            return THROWN;
        }
    }

    /** ICE's part, or THROWN for the NoSuchElementException that the document names. */
    static int ice(IceRun x, int run, int s) {
        try {
            return x.ice(run, s);
        } catch (NoSuchElementException e) {
            return THROWN;
        }
    }

    /** Puts a text behind the tape, of signs up to 255. */
    static void feed(IceRun x, String text) {
        int size = x.count(3) + text.length();
        for (int i = 0; i < text.length(); i += 20) {
            x.feed(number(text, i), number(text, i + 4), number(text, i + 8), number(text, i + 12), number(text, i + 16));
        }
        is("end behind " + text, size, x.end(size));
    }

    private static int number(String text, int from) {
        int value = 0;
        for (int i = from; i < from + 4; i++) {
            value = value << 8 | (i < text.length() ? text.charAt(i) & 255 : 0);
        }
        return value;
    }

    static int laws(IceRun x, String text) {
        feed(x, text);
        return x.laws();
    }

    /** A whole run of all that are in its order. */
    static void runWhole(IceRun x, int seed) {
        int run = x.begin(seed);
        if (run == IceRun.NONE) {
            wrong++;
            System.out.println("begin(" + seed + ") answered NONE");
        }
        for (int i = 0; i < 16 && x.count(6) == run; i++) {
            x.start();
        }
    }

    static void done() {
        if (wrong != 0) {
            System.out.println(wrong + " answers are not as due");
            System.exit(1);
        }
    }
}
