/** The boundary cases of promises 13, 14, 15, 16, 17: the tape, the laws read from it, their faults, what is in force. */
public final class LawsEdgesTest {
    private static final int LEAST = Integer.MIN_VALUE;
    private static final int MOST = Integer.MAX_VALUE;
    private static final String[] WORDS = {"weight", "warm", "reverse", "cut", "runs"};
    private static final int[] LOW = {50, 0, 0, 1, 1};
    private static final int[] HIGH = {200, 100, 16, 16, 4};
    private static final int[] USUAL = {200, 100, 0, 16, 4, 0};
    private static final int[] FORMER = {111, 22, 3, 4, 2, 1};

    public static void main(String[] args) {
        feedHighestFirst();
        feedTo300();
        feedRefusals();
        endBounds();
        endRefusals();
        endForgetsTheRest();
        lawBounds();
        lawBoundsByDigits();
        digitsOfANumber();
        wordsThatStandTogether();
        blanks();
        everyByteForAWord();
        everyByteForANumber();
        everyByteForASemicolon();
        endOfTheText();
        faultsFromTheLeft();
        emptyText();
        fullText();
        latestInForce();
        withoutOne();
        tapeIsEmptyThen();
        lawsStayByAFault();
        lawsWhileARunGoesOn();
        lawsElsewhere();
        placeWithout();
        placeOfTheLatest();
        lawRefusals();
        Due.done();
    }

    private static void inForce(String what, IceRun x, int... due) {
        for (int i = 0; i < 6; i++) {
            Due.is(what + ": law(" + i + ")", due[i], x.law(i));
        }
    }

    /** A text that is read, ahead of which others were in force. */
    private static void good(String text, int... due) {
        IceRun x = new IceRun();
        Due.laws(x, "weight 111; warm 22; reverse 3; cut 4; runs 2; share;");
        Due.is("laws of '" + text + "'", 0, Due.laws(x, text));
        Due.is("place of '" + text + "'", -1, x.place());
        inForce("'" + text + "'", x, due);
    }

    private static void bad(String text, int fault, int place) {
        IceRun x = new IceRun();
        Due.laws(x, "weight 111; warm 22; reverse 3; cut 4; runs 2; share;");
        Due.is("laws of '" + text + "'", fault, Due.laws(x, text));
        Due.is("place of '" + text + "'", place, x.place());
        inForce("'" + text + "'", x, FORMER);
    }

    private static int[] usualBut(int what, int value) {
        int[] due = USUAL.clone();
        due[what] = value;
        return due;
    }

    private static void feedHighestFirst() {
        Due.said("13: of each number the highest first");
        IceRun x = new IceRun();
        // cut7 ;run s2;w arm9 0;\n\n
        Due.is("feed", 20, x.feed(0x63757437, 0x3b72756e, 0x73323b77, 0x61726d39, 0x303b0a0a));
        Due.is("laws", 0, x.laws());
        inForce("fed", x, 200, 90, 0, 7, 2, 0);
        // Bytes above 127: the number is below 0.
        int[] numbers = {0x80202020, 0x20802020, 0x20208020, 0x20202080, 0xff202020, 0x202020ff};
        int[] places = {0, 1, 2, 3, 0, 3};
        for (int i = 0; i < numbers.length; i++) {
            for (int at = 0; at < 5; at++) {
                int[] v = {0x20202020, 0x20202020, 0x20202020, 0x20202020, 0x20202020};
                v[at] = numbers[i];
                x.feed(v[0], v[1], v[2], v[3], v[4]);
                Due.is("a byte above 127", 1, x.laws());
                Due.is("its place", 4 * at + places[i], x.place());
            }
        }
    }

    private static void feedTo300() {
        Due.said("13: how many it has; NONE: there would be more than 300");
        IceRun x = new IceRun();
        for (int i = 1; i <= 15; i++) {
            Due.is("feed " + i, 20 * i, x.feed(0, 0, 0, 0, 0));
            Due.is("count(3)", 20 * i, x.count(3));
        }
        Due.is("feed 16", -1, x.feed(0, 0, 0, 0, 0));
        int[][] due = {{299, -1}, {290, -1}, {281, -1}, {280, 300}};
        for (int[] d : due) {
            x.end(d[0]);
            Due.is("feed behind " + d[0], d[1], x.feed(0, 0, 0, 0, 0));
            Due.is("count(3) behind " + d[0], d[1] == -1 ? d[0] : d[1], x.count(3));
        }
        x.end(279);
        Due.is("feed behind 279", 299, x.feed(0, 0, 0, 0, 0));
        Due.is("feed behind 299", -1, x.feed(0, 0, 0, 0, 0));
        x.end(0);
        Due.is("feed behind 0", 20, x.feed(0, 0, 0, 0, 0));
    }

    private static void feedRefusals() {
        Due.said("13: a refused call changes nothing");
        Twins.none("feed", x -> x.feed(0x20202020, 0x20202020, 0x20202020, 0x20202020, 0x20202020), States.FULL);
        Twins.none("feed", x -> x.feed(LEAST, MOST, -1, 0, 1), States.FULL);
        Due.said("13: (no state refuses it)");
        for (States state : States.ALL) {
            IceRun x = state.make();
            x.end(0);
            Due.is("feed in " + state, 20, x.feed(LEAST, MOST, -1, 0, 1));
        }
    }

    private static void endBounds() {
        Due.said("14: The tape has its first n bytes alone: n");
        IceRun x = new IceRun();
        Due.is("end(0) of nothing", 0, x.end(0));
        for (int i = 0; i < 15; i++) {
            x.feed(0, 0, 0, 0, 0);
        }
        int[] ends = {300, 299, 281, 20, 19, 1, 0};
        for (int n : ends) {
            Due.is("one more than " + n, n == 300 ? -1 : n + 1, x.end(n + 1));
            Due.is("end(" + n + ")", n, x.end(n));
            Due.is("count(3)", n, x.count(3));
            Due.is("end(" + n + ") again", n, x.end(n));
            Due.is("end(" + (n + 1) + ") then", -1, x.end(n + 1));
            Due.is("count(3) then", n, x.count(3));
        }
    }

    private static void endRefusals() {
        Due.said("14: NONE if it has less");
        Twins.none("end(1)", x -> x.end(1), States.FRESH);
        Twins.none("end(301)", x -> x.end(301), States.FRESH, States.TRACKED, States.FULL);
        Twins.none("end(19)", x -> x.end(19), States.TRACKED, States.RUNNING);
        Twins.none("end(MOST)", x -> x.end(MOST), States.FRESH, States.TRACKED, States.FULL);
        Due.said("14: NONE: n is below 0");
        Twins.none("end(-1)", x -> x.end(-1), States.FRESH, States.TRACKED, States.FULL);
        Twins.none("end(LEAST)", x -> x.end(LEAST), States.FRESH, States.TRACKED, States.FULL);
        Due.said("14: (no state refuses it)");
        for (States state : States.ALL) {
            IceRun x = state.make();
            Due.is("end in " + state, x.count(3), x.end(x.count(3)));
        }
    }

    private static void endForgetsTheRest() {
        Due.said("14: its first n bytes alone");
        IceRun x = new IceRun();
        Due.feed(x, "cut 15;cut 16;");
        x.end(5);
        Due.feed(x, ";");
        Due.is("cut 1;", 0, x.laws());
        Due.is("law(3)", 1, x.law(3));
        Due.feed(x, "runs 2;share;");
        x.end(7);
        x.laws();
        Due.is("law(4)", 2, x.law(4));
        Due.is("no share", 0, x.law(5));
    }

    private static void lawBounds() {
        Due.said("2.: 2 at a NUMBER beyond its bounds");
        for (int what = 0; what < 5; what++) {
            for (int value = 0; value <= 260; value++) {
                String text = WORDS[what] + " " + value + ";";
                if (value >= LOW[what] && value <= HIGH[what]) {
                    good(text, usualBut(what, value));
                } else {
                    bad(text, 2, WORDS[what].length() + 1);
                }
            }
        }
    }

    private static void lawBoundsByDigits() {
        Due.said("2.: 2 at a NUMBER beyond its bounds: the most of 4 digits, and nought");
        for (int what = 0; what < 5; what++) {
            bad(WORDS[what] + " 9999;", 2, WORDS[what].length() + 1);
            bad(WORDS[what] + "1000;", 2, WORDS[what].length());
            if (LOW[what] > 0) {
                bad(WORDS[what] + " 0000;", 2, WORDS[what].length() + 1);
            } else {
                good(WORDS[what] + " 0000;", usualBut(what, 0));
            }
        }
    }

    private static void digitsOfANumber() {
        Due.said("2.: NUMBERS (1 to 4 digits)");
        good("cut 7;", usualBut(3, 7));
        good("cut 07;", usualBut(3, 7));
        good("cut 007;", usualBut(3, 7));
        good("cut 0007;", usualBut(3, 7));
        bad("cut 00007;", 1, 4);
        bad("cut 000007;", 1, 4);
        bad("cut 12345;", 1, 4);
        bad("cut 10000000007;", 1, 4);
        bad("cut 4294967303;", 1, 4);
        bad("cut 000 7;", 2, 4);
        bad("cut 0007 7;", 1, 9);
        bad("cut 7 00007;", 1, 6);
        bad("00007;", 1, 0);
        bad("share 00007;", 1, 6);
        bad("cut 00007", 1, 4);
    }

    private static void wordsThatStandTogether() {
        Due.said("2.: words (small letters, as many as stand together)");
        String[] all = {"weight", "warm", "reverse", "cut", "runs", "share", "keep"};
        for (String word : all) {
            String rest = word.equals("share") || word.equals("keep") ? ";" : "1;";
            bad(word.substring(1) + rest, 1, 0);
            bad(word.substring(0, word.length() - 1) + rest, 1, 0);
            bad(word + "s" + rest, 1, 0);
            bad("a" + word + rest, 1, 0);
            bad(word + word + rest, 1, 0);
            bad(word.substring(0, 1) + " " + word.substring(1) + rest, 1, 0);
            bad("share;" + word + "z" + rest, 1, 6);
            for (int i = 0; i < word.length(); i++) {
                char[] other = word.toCharArray();
                other[i] = other[i] == 'z' ? 'a' : (char) (other[i] + 1);
                bad(new String(other) + rest, 1, 0);
                other[i] = Character.toUpperCase(word.charAt(i));
                bad(new String(other) + rest, 1, 0);
            }
        }
        bad("cutshare;", 1, 0);
        bad("sharecut 7;", 1, 0);
        good("share;cut 7;", 200, 100, 0, 7, 4, 1);
    }

    private static void blanks() {
        Due.said("2.: with blanks (32, 10) between or not");
        good("cut7;share;", 200, 100, 0, 7, 4, 1);
        good(" cut 7 ; share ; ", 200, 100, 0, 7, 4, 1);
        good("\ncut\n7\n;\nshare\n;\n", 200, 100, 0, 7, 4, 1);
        good(" \n \ncut \n \n7\n\n  ;  \n\nshare \n;\n\n\n  ", 200, 100, 0, 7, 4, 1);
        bad("c ut 7;", 1, 0);
        bad("cut 1 0;", 1, 6);
        bad("sh\nare;", 1, 0);
    }

    /** Where a word may stand none is made by one byte: blanks are passed over, letters make an unknown word. */
    private static void everyByteForAWord() {
        Due.said("2.: 1 at the first byte of a TOKEN that can't stand there, or is none: where a word may stand");
        for (int b = 0; b < 256; b++) {
            char sign = (char) b;
            if (b == 32 || b == 10) {
                good("share;" + sign + "keep;", USUAL);
            } else {
                bad("share;" + sign, 1, 6);
                bad("share; \n" + sign + ";keep;", 1, 8);
            }
        }
    }

    private static void everyByteForANumber() {
        Due.said("2.: 1 at the first byte of a TOKEN that can't stand there, or is none: where a NUMBER may stand");
        for (int b = 0; b < 256; b++) {
            char sign = (char) b;
            if (b == 32 || b == 10) {
                good("cut " + sign + "7;", usualBut(3, 7));
            } else if (b >= '1' && b <= '9') {
                good("cut " + sign + ";", usualBut(3, b - '0'));
            } else if (b == '0') {
                bad("cut " + sign + ";", 2, 4);
            } else {
                bad("cut " + sign + ";", 1, 4);
                bad("cut " + sign + "7;", 1, 4);
            }
        }
    }

    /** Behind a word a letter makes another word of it, which is none of a law. */
    private static void everyByteForASemicolon() {
        Due.said("2.: 1 at the first byte of a TOKEN that can't stand there, or is none: where ; may stand");
        for (int b = 0; b < 256; b++) {
            char sign = (char) b;
            if (b == 32 || b == 10) {
                good("cut 7" + sign + ";", usualBut(3, 7));
            } else if (b == ';') {
                good("cut 7" + sign, usualBut(3, 7));
                bad("cut 7;" + sign, 1, 6);
            } else {
                bad("cut 7 " + sign + ";", 1, 6);
                bad("share " + sign + ";", 1, 6);
                bad("share" + sign + ";", 1, b >= 'a' && b <= 'z' ? 0 : 5);
            }
        }
    }

    private static void endOfTheText() {
        Due.said("2.: (the end: how many bytes there are)");
        String text = " cut 07 ;\nshare ; keep;";
        // For each length of the text where its fault is; -1 where there is none.
        int[] due = {-1, -1, 1, 1, 4, 5, -2, 7, 8, -1, -1, 10, 10, 10, 10, 15, 16, -1, -1, 18, 18, 18, 22, -1};
        for (int n = 0; n <= text.length(); n++) {
            IceRun x = new IceRun();
            Due.feed(x, text);
            x.end(n);
            int fault = due[n] == -1 ? 0 : due[n] == -2 ? 2 : 1;
            Due.is("laws of the first " + n, fault, x.laws());
            Due.is("place in the first " + n, due[n] == -2 ? 5 : due[n], x.place());
        }
        bad("cut", 1, 3);
        bad("cut   ", 1, 6);
        bad("cut 7", 1, 5);
        bad("cut 7\n\n", 1, 7);
        bad("keep", 1, 4);
        bad(" keep ", 1, 6);
    }

    private static void faultsFromTheLeft() {
        Due.said("2.: FAULTS, the first from the left");
        bad("cut 0", 2, 4);
        bad("cut 0 0", 2, 4);
        bad("cut 17 cut", 2, 4);
        bad("cut 17?", 2, 4);
        bad("cut 17x;", 2, 4);
        bad("runs 5;cut 0;", 2, 5);
        bad("cut;runs 5;", 1, 3);
        bad("?cut 0;", 1, 0);
        bad("share;;cut 0;", 1, 6);
        bad("weight 49;weight", 2, 7);
        bad("weight 50;weight 201;weight 9;", 2, 17);
        bad("share;share", 1, 11);
        bad("share;share 4", 1, 12);
    }

    private static void emptyText() {
        Due.said("2.: LAWS: {LAW} (none at all)");
        good("", USUAL);
        good(" ", USUAL);
        good("\n", USUAL);
        good(" ".repeat(300), USUAL);
        good("\n".repeat(300), USUAL);
    }

    private static void fullText() {
        Due.said("2.: a text of at most 300 bytes");
        good("share;".repeat(50), usualBut(5, 1));
        good("cut 7;".repeat(49) + "cut 8;", usualBut(3, 8));
        good(" ".repeat(294) + "cut 9;", usualBut(3, 9));
        good("cut" + " ".repeat(295) + "9;", usualBut(3, 9));
        good("cut 9" + " ".repeat(294) + ";", usualBut(3, 9));
        good("cut 9;" + " ".repeat(294), usualBut(3, 9));
        bad(" ".repeat(295) + "cut 9", 1, 300);
        bad(" ".repeat(299) + ";", 1, 299);
        bad(" ".repeat(299) + "a", 1, 299);
        bad(" ".repeat(299) + "1", 1, 299);
        bad(" ".repeat(297) + "cut", 1, 300);
        bad(" ".repeat(295) + "cut 0", 2, 299);
        bad("share;".repeat(49) + "share ", 1, 300);
        bad("a".repeat(300), 1, 0);
        bad("7".repeat(300), 1, 0);
        bad(";".repeat(300), 1, 0);
        bad("cut" + "7".repeat(297), 1, 3);
        bad("keep;".repeat(59) + "keep?", 1, 299);
    }

    private static void latestInForce() {
        Due.said("2.: Of LAWS of one word the latest is in force");
        for (int what = 0; what < 5; what++) {
            good(WORDS[what] + HIGH[what] + ";" + WORDS[what] + LOW[what] + ";", usualBut(what, LOW[what]));
            good(WORDS[what] + LOW[what] + ";share;keep;" + WORDS[what] + HIGH[what] + ";", usualBut(what, HIGH[what]));
        }
        Due.said("2.: of share and keep the latest of both");
        good("share;", usualBut(5, 1));
        good("keep;", USUAL);
        good("share;keep;", USUAL);
        good("keep;share;", usualBut(5, 1));
        good("share;cut 16;keep;runs 4;", USUAL);
        good("keep;keep;share;share;", usualBut(5, 1));
    }

    private static void withoutOne() {
        Due.said("2.: without one: weight 200, warm 100, reverse 0, cut 16, runs 4, keep; 15: in place of those that are");
        int[] others = {60, 5, 9, 3, 2};
        for (int what = 0; what < 5; what++) {
            good(WORDS[what] + " " + others[what] + ";", usualBut(what, others[what]));
        }
        good("share;", usualBut(5, 1));
        good("", USUAL);
    }

    private static void tapeIsEmptyThen() {
        Due.said("15: The tape (empty then)");
        String[] texts = {"", "share;", "cut 0;", "cut", "?"};
        for (String text : texts) {
            IceRun x = new IceRun();
            Due.laws(x, text);
            Due.is("count(3) behind '" + text + "'", 0, x.count(3));
            Due.is("end(1) behind '" + text + "'", -1, x.end(1));
            Due.is("laws behind '" + text + "'", 0, x.laws());
            Due.is("place behind '" + text + "'", -1, x.place());
            inForce("behind '" + text + "'", x, USUAL);
            Due.is("feed behind '" + text + "'", 20, x.feed(0, 0, 0, 0, 0));
        }
    }

    private static void lawsStayByAFault() {
        Due.said("15: the FAULT, and LAWS stay");
        bad("weight 60;warm 1;reverse 1;cut 1;runs 1;keep;?", 1, 45);
        bad("weight 60;warm 1;reverse 1;cut 1;runs 1;keep;cut 0;", 2, 49);
        bad("keep;weight 60;warm 1;reverse 1;cut 1;runs 1", 1, 44);
        Due.said("15: (a fault changes nothing but the tape and the place)");
        for (States state : States.OUT_OF_RUN) {
            IceRun x = state.make();
            IceRun y = state.make();
            x.end(0);
            Due.is("fault in " + state, 2, Due.laws(x, "runs 9;"));
            for (int i = 0; i < 11; i++) {
                Due.is("count(" + i + ") in " + state, i == 3 ? 0 : y.count(i), x.count(i));
                Due.is("law(" + i + ") in " + state, y.law(i), x.law(i));
            }
            Due.is("begin in " + state, y.begin(4), x.begin(4));
        }
    }

    private static void lawsWhileARunGoesOn() {
        Due.said("15: NONE: a RUN goes on (the tape stays)");
        Twins.none("laws()", x -> x.laws(), States.IN_RUN);
        for (States state : States.IN_RUN) {
            IceRun x = state.make();
            Due.is("bytes in " + state, 18, x.count(3));
            Due.is("laws in " + state, -1, x.laws());
            Due.is("bytes behind it in " + state, 18, x.count(3));
            Due.is("place behind it in " + state, 4, x.place());
            x.shut();
            Due.is("laws then in " + state, 0, x.laws());
            Due.is("law(1) then in " + state, 9, x.law(1));
            Due.is("law(2) then in " + state, 1, x.law(2));
        }
        IceRun empty = States.BEGUN.make();
        empty.end(0);
        Due.is("an empty tape in a run", -1, empty.laws());
        Due.is("the laws stay", 60, empty.law(1));
    }

    private static void lawsElsewhere() {
        Due.said("2.: LAWS are read while no RUN goes on");
        for (States state : States.OUT_OF_RUN) {
            IceRun x = state.make();
            x.end(0);
            Due.is("laws in " + state, 0, Due.laws(x, "weight 77;"));
            inForce("in " + state, x, 77, 100, 0, 16, 4, 0);
        }
    }

    private static void placeWithout() {
        Due.said("16: NONE without");
        IceRun x = new IceRun();
        Due.is("no laws()", -1, x.place());
        Due.feed(x, "?");
        Due.is("a tape alone", -1, x.place());
        Due.laws(x, "\n");
        Due.is("the fault behind it", 0, x.place());
        x.laws();
        Due.is("no fault", -1, x.place());
        Twins.none("place()", y -> y.place(), States.FRESH, States.EMPTY_RACE, States.FULL);
    }

    private static void placeOfTheLatest() {
        Due.said("16: of the latest laws() that was not NONE");
        IceRun x = States.BEGUN.make();
        Due.is("a fault ahead of the run", 4, x.place());
        Due.is("laws() in the run", -1, x.laws());
        Due.is("place in the run", 4, x.place());
        x.feed(0, 0, 0, 0, 0);
        x.end(3);
        Due.is("place by another tape", 4, x.place());
        x.shut();
        Due.is("laws behind the run", 1, x.laws());
        Due.is("place behind the run", 0, x.place());
        Due.is("words alone", 1, Due.laws(x, "share"));
        Due.is("place of that", 5, x.place());
        x.race();
        Due.is("place in another race", 5, x.place());
        x.begin(0);
        x.laws();
        Due.is("place in its run", 5, x.place());
        x.shut();
        Due.is("an empty one", 0, x.laws());
        Due.is("place of none", -1, x.place());
        Twins.changesNothing("place()", y -> y.place(), States.ALL);
    }

    private static void lawRefusals() {
        Due.said("17: NONE for others");
        int[] others = {-1, 6, 7, 300, LEAST, MOST};
        for (int what : others) {
            Twins.none("law(" + what + ")", x -> x.law(what), States.FRESH, States.TRACKED, States.RUNNING);
        }
        Due.said("17: What is in force (asking changes nothing)");
        for (int what = 0; what < 6; what++) {
            int w = what;
            Twins.changesNothing("law(" + w + ")", x -> x.law(w), States.TRACKED, States.RUNNING);
        }
    }
}
