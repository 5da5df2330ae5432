/** The boundary cases of promises 4, 5, 6: the rows of the runners, copies of them and the glide. */
public final class RunnersEdgesTest {
    private static final int LEAST = Integer.MIN_VALUE;
    private static final int MOST = Integer.MAX_VALUE;

    public static void main(String[] args) {
        rowBounds();
        rowRefusals();
        missingOfAnyNumber();
        bytesAreCut();
        shortsAreCut();
        intsAreNot();
        stepsWrap();
        emptyRow();
        fullRow();
        rowAnew();
        rowsInAnyState();
        copyKinds();
        copyOfMissing();
        copyOfUnlike();
        copyBeyond();
        copyFirstReason();
        copyToTheEnds();
        copyOntoItself();
        copyOfEmpty();
        copyRefusalsChangeNothing();
        glideBounds();
        glideRefusals();
        glideEntries();
        glideCounts();
        glideWithoutEntry();
        Due.done();
    }

    private static void row(String what, IceRun x, int kind, int... due) {
        for (int i = 0; i < 9; i++) {
            Due.is(what + ": entry " + i, i < due.length ? due[i] : 0, Due.glide(x, kind, 125 * i));
        }
    }

    private static void rowBounds() {
        Due.said("4: a KIND, 0 to 3, a sort, 0 to 3, of 0 to 9 numbers");
        for (int kind = 0; kind < 4; kind++) {
            for (int sort = 0; sort < 4; sort++) {
                for (int n = 0; n <= 9; n++) {
                    rowOf(kind, sort, n);
                }
            }
        }
    }

    private static void rowOf(int kind, int sort, int n) {
        String what = "runners(" + kind + ", " + sort + ", " + n + ", 20, -3)";
        IceRun x = new IceRun();
        Due.yes(what, x.runners(kind, sort, n, 20, -3));
        int entries = sort == 3 ? 0 : n;
        for (int i = 0; i < 9; i++) {
            Due.is(what + ": entry " + i, i < entries ? 20 - 3 * i : 0, Due.glide(x, kind, 125 * i));
        }
        for (int other = 0; other < 4; other++) {
            int due = other != kind || sort == 3 ? -2 : 0;
            Due.is(what + ": is " + other + " missing", due, x.copy(other, 0, other, 0, 0));
        }
        if (sort != 3) {
            Due.is(what + ": all of it", n, x.copy(kind, 0, kind, 0, n));
            Due.is(what + ": more than it", -4, x.copy(kind, 0, kind, 0, n + 1));
        }
    }

    private static void rowRefusals() {
        Due.said("4: False: no such KIND");
        refusedRow(-1, 0, 1);
        refusedRow(4, 0, 1);
        refusedRow(LEAST, 0, 1);
        refusedRow(MOST, 0, 1);
        refusedRow(-1, 3, 0);
        refusedRow(4, 3, 0);
        Due.said("4: False: no such sort");
        refusedRow(0, -1, 1);
        refusedRow(0, 4, 1);
        refusedRow(0, LEAST, 1);
        refusedRow(0, MOST, 1);
        Due.said("4: False: n above 9");
        for (int sort = 0; sort < 4; sort++) {
            refusedRow(0, sort, 10);
            refusedRow(1, sort, MOST);
        }
        Due.said("4: False: (but of sort 3) below 0");
        for (int sort = 0; sort < 3; sort++) {
            refusedRow(0, sort, -1);
            refusedRow(1, sort, LEAST);
        }
    }

    private static void refusedRow(int kind, int sort, int n) {
        Twins.no("runners(" + kind + ", " + sort + ", " + n + ", 55, 1)", x -> Twins.bit(x.runners(kind, sort, n, 55, 1)), States.FRESH,
                States.TRACKED, States.RUNNING);
    }

    private static void missingOfAnyNumber() {
        Due.said("4: but of sort 3 (n may be below 0)");
        int[] numbers = {LEAST, -1, 0, 9};
        for (int n : numbers) {
            IceRun x = new IceRun();
            x.runners(2, 1, 9, 5, 5);
            Due.yes("runners(2, 3, " + n + ", 5, 5)", x.runners(2, 3, n, 5, 5));
            row("missing by " + n, x, 2);
            Due.is("missing by " + n, -2, x.copy(2, 0, 2, 0, 0));
        }
    }

    private static void first(int sort, int f, int due) {
        IceRun x = new IceRun();
        x.runners(0, sort, 1, f, 0);
        Due.is("sort " + sort + " of " + f, due, Due.glide(x, 0, 0));
    }

    private static void bytesAreCut() {
        Due.said("4: cut to its sort: bytes");
        int[][] due = {{127, 127}, {128, -128}, {129, -127}, {255, -1}, {256, 0}, {257, 1}, {-128, -128}, {-129, 127}, {-256, 0}, {-257, -1},
            {32768, 0}, {65536 + 5, 5}, {MOST, -1}, {LEAST, 0}};
        for (int[] d : due) {
            first(0, d[0], d[1]);
        }
    }

    private static void shortsAreCut() {
        Due.said("4: cut to its sort: shorts");
        int[][] due = {{128, 128}, {-129, -129}, {256, 200}, {32767, 200}, {32768, -200}, {65535, -1}, {65536, 0}, {65537, 1}, {-32768, -200},
            {-32769, 200}, {-65536, 0}, {-65537, -1}, {MOST, -1}, {LEAST, 0}};
        for (int[] d : due) {
            first(1, d[0], d[1]);
        }
    }

    private static void intsAreNot() {
        Due.said("4: ints");
        int[][] due = {{128, 128}, {-129, -129}, {32768, 200}, {65535, 200}, {65536, 200}, {-32769, -200}, {-65536, -200}, {MOST, 200},
            {LEAST, -200}};
        for (int[] d : due) {
            first(2, d[0], d[1]);
        }
    }

    private static void stepsWrap() {
        Due.said("4: entries f, f + step, .. (as ints go; cut to its sort)");
        IceRun x = new IceRun();
        x.runners(0, 2, 9, MOST, 1);
        row("ints up", x, 0, 200, -200, -200, -200, -200, -200, -200, -200, -200);
        x.runners(0, 2, 9, LEAST, -1);
        row("ints down", x, 0, -200, 200, 200, 200, 200, 200, 200, 200, 200);
        x.runners(0, 2, 9, 7, LEAST);
        row("ints by the least step", x, 0, 7, -200, 7, -200, 7, -200, 7, -200, 7);
        x.runners(0, 2, 9, -1, 1 << 30);
        row("ints by a quarter", x, 0, -1, 200, 200, -200, -1, 200, 200, -200, -1);
        x.runners(0, 0, 9, MOST, 1);
        row("bytes up", x, 0, -1, 0, 1, 2, 3, 4, 5, 6, 7);
        x.runners(0, 0, 9, 124, 1);
        row("bytes over 127", x, 0, 124, 125, 126, 127, -128, -127, -126, -125, -124);
        x.runners(0, 0, 9, -126, -1);
        row("bytes under -128", x, 0, -126, -127, -128, 127, 126, 125, 124, 123, 122);
        x.runners(0, 1, 9, LEAST, -1);
        row("shorts down", x, 0, 0, -1, -2, -3, -4, -5, -6, -7, -8);
        x.runners(0, 1, 9, 3, 1 << 16);
        row("shorts by 65536", x, 0, 3, 3, 3, 3, 3, 3, 3, 3, 3);
        x.runners(0, 0, 9, 0, MOST);
        row("bytes by the most step", x, 0, 0, -1, -2, -3, -4, -5, -6, -7, -8);
    }

    private static void emptyRow() {
        Due.said("Terms: a ROW of 0 numbers (is not missing)");
        for (int sort = 0; sort < 3; sort++) {
            IceRun x = new IceRun();
            Due.yes("empty", x.runners(1, sort, 0, 9, 9));
            row("empty", x, 1);
            Due.is("a copy of none of it", 0, x.copy(1, 0, 1, 0, 0));
            Due.is("a copy of one of it", -4, x.copy(1, 0, 1, 0, 1));
        }
    }

    private static void fullRow() {
        Due.said("Terms: a ROW of 9 numbers");
        for (int sort = 0; sort < 3; sort++) {
            IceRun x = new IceRun();
            Due.yes("full", x.runners(1, sort, 9, 11, 11));
            row("full", x, 1, 11, 22, 33, 44, 55, 66, 77, 88, 99);
            Due.is("a copy of all of it", 9, x.copy(1, 0, 1, 0, 9));
            Due.is("a copy of the last of it", 1, x.copy(1, 8, 1, 0, 1));
            Due.is("the last is the first", 99, Due.glide(x, 1, 0));
        }
    }

    private static void rowAnew() {
        Due.said("4: The ROW of a KIND is made (in place of the former)");
        IceRun x = new IceRun();
        x.runners(0, 2, 9, 100, 1);
        x.runners(0, 2, 2, 5, 1);
        row("shorter", x, 0, 5, 6);
        Due.is("no longer", -4, x.copy(0, 0, 0, 0, 3));
        x.runners(0, 0, 3, 7, 1);
        row("of another sort", x, 0, 7, 8, 9);
        x.runners(0, 3, 0, 7, 1);
        row("missing", x, 0);
        x.runners(0, 1, 4, 1, 1);
        row("there again", x, 0, 1, 2, 3, 4);
    }

    private static void rowsInAnyState() {
        Due.said("4: (no state refuses it)");
        for (States state : States.ALL) {
            IceRun x = state.make();
            Due.yes("runners in " + state, x.runners(3, 2, 9, 33, 0));
            Due.is("glide in " + state, 33, Due.glide(x, 3, 1000));
        }
        IceRun x = new IceRun();
        x.track(5, 2);
        x.sled(0, 100, 3, 5);
        x.sled(0, 100, 3, 5);
        x.race();
        x.begin(0);
        Due.is("without a row", 1250, x.start());
        x.water(0, 5);
        x.weather(51, -2, 0);
        x.runners(3, 2, 9, 33, 0);
        Due.is("with a row in the same run", 1250 + 5 * 33, x.start());
    }

    private static IceRun rows() {
        IceRun x = new IceRun();
        x.runners(0, 0, 5, 1, 1);
        x.runners(1, 0, 3, 11, 1);
        x.runners(2, 1, 5, 21, 1);
        return x;
    }

    private static void copyDue(int due, int from, int at, int to, int where, int n) {
        IceRun x = rows();
        Due.is("copy(" + from + ", " + at + ", " + to + ", " + where + ", " + n + ")", due, x.copy(from, at, to, where, n));
        if (due < 0) {
            row("refused", x, 0, 1, 2, 3, 4, 5);
            row("refused", x, 1, 11, 12, 13);
            row("refused", x, 2, 21, 22, 23, 24, 25);
            row("refused", x, 3);
        }
    }

    private static void copyKinds() {
        Due.said("5: NONE: no such KINDS");
        int[] others = {-1, 4, LEAST, MOST};
        for (int other : others) {
            copyDue(-1, other, 0, 0, 0, 1);
            copyDue(-1, 0, 0, other, 0, 1);
            copyDue(-1, other, 0, other, 0, 0);
        }
    }

    private static void copyOfMissing() {
        Due.said("5: -2: a ROW is missing");
        copyDue(-2, 3, 0, 0, 0, 0);
        copyDue(-2, 0, 0, 3, 0, 0);
        copyDue(-2, 3, 0, 3, 0, 0);
    }

    private static void copyOfUnlike() {
        Due.said("5: -3: unlike sorts");
        copyDue(-3, 0, 0, 2, 0, 1);
        copyDue(-3, 2, 0, 0, 0, 1);
        copyDue(-3, 2, 0, 1, 0, 0);
        for (int a = 0; a < 3; a++) {
            for (int b = 0; b < 3; b++) {
                IceRun x = new IceRun();
                x.runners(0, a, 2, 1, 1);
                x.runners(1, b, 2, 5, 1);
                Due.is("sorts " + a + " and " + b, a == b ? 1 : -3, x.copy(0, 1, 1, 0, 1));
                row("sorts " + a + " and " + b, x, 1, a == b ? 2 : 5, 6);
            }
        }
    }

    private static void copyBeyond() {
        Due.said("5: -4: beyond either ROW");
        copyDue(-4, 0, 5, 1, 0, 1);
        copyDue(-4, 0, 6, 1, 0, 0);
        copyDue(-4, 0, 3, 1, 0, 3);
        copyDue(-4, 0, -1, 1, 0, 1);
        copyDue(-4, 0, -1, 1, 0, 0);
        copyDue(-4, 0, 0, 1, 3, 1);
        copyDue(-4, 0, 0, 1, 4, 0);
        copyDue(-4, 0, 0, 1, 0, 4);
        copyDue(-4, 0, 0, 1, 1, 3);
        copyDue(-4, 0, 0, 1, -1, 1);
        copyDue(-4, 0, 0, 1, -1, 0);
        copyDue(-4, 1, 0, 0, 0, 4);
        copyDue(-4, 0, 0, 0, 0, 6);
        copyDue(-4, 0, 1, 1, 1, MOST);
        copyDue(-4, 0, MOST, 1, 0, 1);
        copyDue(-4, 0, MOST, 1, 0, MOST);
        copyDue(-4, 0, 0, 1, MOST, 1);
        copyDue(-4, 0, 0, 1, MOST, MOST);
        copyDue(-4, 0, LEAST, 1, 0, 1);
        copyDue(-4, 0, 0, 1, LEAST, 1);
        Due.said("5: -4: n below 0");
        copyDue(-4, 0, 0, 1, 0, -1);
        copyDue(-4, 0, 5, 1, 3, -1);
        copyDue(-4, 0, 0, 1, 0, LEAST);
        copyDue(-4, 0, 1, 0, 1, LEAST);
    }

    private static void copyFirstReason() {
        Due.said("5: (the reasons as they are told: NONE, -2, -3, -4)");
        copyDue(-1, 4, -1, 3, -1, -1);
        copyDue(-1, 3, 0, -1, 0, 0);
        copyDue(-2, 3, 99, 0, 99, -1);
        copyDue(-2, 2, -1, 3, -1, 99);
        copyDue(-3, 0, 99, 2, 0, 1);
        copyDue(-3, 2, 0, 1, 0, -1);
    }

    private static void copyToTheEnds() {
        Due.said("5: n entries are copied: n");
        copyDue(0, 0, 0, 1, 0, 0);
        copyDue(0, 0, 5, 1, 3, 0);
        copyDue(3, 0, 2, 1, 0, 3);
        copyDue(3, 1, 0, 0, 2, 3);
        copyDue(1, 0, 4, 1, 2, 1);
        copyDue(5, 0, 0, 0, 0, 5);
        IceRun x = rows();
        x.copy(0, 2, 1, 0, 3);
        row("the whole of it", x, 1, 3, 4, 5);
        row("where it came from", x, 0, 1, 2, 3, 4, 5);
        x = rows();
        x.copy(0, 4, 1, 2, 1);
        row("the last of both", x, 1, 11, 12, 5);
        x = rows();
        x.copy(1, 0, 0, 2, 3);
        row("at the end", x, 0, 1, 2, 11, 12, 13);
        x = rows();
        x.copy(0, 5, 1, 3, 0);
        row("nothing", x, 1, 11, 12, 13);
    }

    private static void copyOntoItself() {
        Due.said("5: (of one ROW onto itself: the entries as they were)");
        for (int at = 0; at <= 5; at++) {
            for (int where = 0; where <= 5; where++) {
                for (int n = 0; n <= 5 - Math.max(at, where); n++) {
                    IceRun x = rows();
                    Due.is("copy", n, x.copy(0, at, 0, where, n));
                    int[] due = {1, 2, 3, 4, 5};
                    for (int i = 0; i < n; i++) {
                        due[where + i] = 1 + at + i;
                    }
                    row("copy(0, " + at + ", 0, " + where + ", " + n + ")", x, 0, due);
                }
            }
        }
    }

    private static void copyOfEmpty() {
        Due.said("5: (an empty ROW)");
        IceRun x = rows();
        x.runners(3, 0, 0, 0, 0);
        Due.is("none of it", 0, x.copy(3, 0, 0, 5, 0));
        Due.is("none into it", 0, x.copy(0, 5, 3, 0, 0));
        Due.is("one of it", -4, x.copy(3, 0, 0, 0, 1));
        Due.is("one into it", -4, x.copy(0, 0, 3, 0, 1));
        Due.is("behind it", -4, x.copy(3, 1, 0, 0, 0));
        row("as it was", x, 0, 1, 2, 3, 4, 5);
    }

    /** In the states the rows 0, 1, 2 are of the sorts 0, 1, 1 and the lengths 5, 9, 2; row 3 is missing. */
    private static void copyRefusalsChangeNothing() {
        Due.said("5: a refused call changes nothing");
        States[] states = {States.TRACKED, States.RUNNING};
        Twins.none("copy(4, 0, 0, 0, 1)", x -> x.copy(4, 0, 0, 0, 1), states);
        Twins.none("copy(0, 0, -1, 0, 1)", x -> x.copy(0, 0, -1, 0, 1), states);
        Twins.refused("copy(3, 0, 0, 0, 1)", -2, x -> x.copy(3, 0, 0, 0, 1), states);
        Twins.refused("copy(0, 0, 3, 0, 1)", -2, x -> x.copy(0, 0, 3, 0, 1), states);
        Twins.refused("copy(0, 0, 1, 0, 1)", -3, x -> x.copy(0, 0, 1, 0, 1), states);
        Twins.refused("copy(1, 0, 2, 0, 3)", -4, x -> x.copy(1, 0, 2, 0, 3), states);
        Twins.refused("copy(1, 8, 2, 0, 2)", -4, x -> x.copy(1, 8, 2, 0, 2), states);
        Twins.refused("copy(1, 0, 2, 1, 2)", -4, x -> x.copy(1, 0, 2, 1, 2), states);
        Twins.refused("copy(1, 0, 2, 0, -1)", -4, x -> x.copy(1, 0, 2, 0, -1), states);
    }

    private static void glideBounds() {
        Due.said("6: GLIDE of a KIND (0 to 3) at a HARDNESS (0 to 1000)");
        IceRun x = new IceRun();
        for (int kind = 0; kind < 4; kind++) {
            x.runners(kind, 2, 9, 10 * kind + 1, 1);
            Due.is("glide(" + kind + ", 0)", 10 * kind + 1, Due.glide(x, kind, 0));
            Due.is("glide(" + kind + ", 1000)", 10 * kind + 9, Due.glide(x, kind, 1000));
        }
    }

    private static void glideRefusals() {
        Due.said("6: NoSuchElementException: no such KIND");
        int[][] kinds = {{-1, 0}, {4, 0}, {-1, 1000}, {4, 1000}, {LEAST, 500}, {MOST, 500}};
        for (int[] w : kinds) {
            Twins.refused("glide(" + w[0] + ", " + w[1] + ")", Due.THROWN, x -> Due.glide(x, w[0], w[1]), States.FRESH, States.RUNNING);
        }
        Due.said("6: NoSuchElementException: no such HARDNESS");
        for (int kind = 0; kind < 4; kind++) {
            int k = kind;
            int[] hardness = {-1, 1001, -124, 1124, LEAST, MOST};
            for (int h : hardness) {
                Twins.refused("glide(" + k + ", " + h + ")", Due.THROWN, x -> Due.glide(x, k, h), States.FRESH, States.RUNNING);
            }
        }
    }

    private static void glideEntries() {
        Due.said("Terms: entry h / 125 (cut)");
        IceRun x = new IceRun();
        x.runners(0, 2, 9, 1, 1);
        int[][] due = {{0, 1}, {1, 1}, {124, 1}, {125, 2}, {126, 2}, {249, 2}, {250, 3}, {374, 3}, {375, 4}, {499, 4}, {500, 5}, {624, 5}, {625, 6},
            {749, 6}, {750, 7}, {874, 7}, {875, 8}, {999, 8}, {1000, 9}};
        for (int[] d : due) {
            Due.is("glide(0, " + d[0] + ")", d[1], Due.glide(x, 0, d[0]));
        }
    }

    private static void glideCounts() {
        Due.said("Terms: from -200 to 200 (what is beyond counts as that)");
        int[][] due = {{199, 199}, {200, 200}, {201, 200}, {32767, 200}, {-199, -199}, {-200, -200}, {-201, -200}, {-32768, -200}};
        for (int[] d : due) {
            first(1, d[0], d[1]);
            first(2, d[0], d[1]);
        }
        IceRun x = new IceRun();
        x.track(5, 2);
        x.runners(0, 2, 9, 5000, 0);
        Due.is("in the STANDARD", 5 * (250 + 200), x.standard());
    }

    private static void glideWithoutEntry() {
        Due.said("Terms: 0 if the ROW is missing or has it not");
        for (int n = 0; n <= 9; n++) {
            IceRun x = new IceRun();
            x.runners(0, 2, n, 50, 0);
            for (int i = 0; i < 9; i++) {
                Due.is("entry " + i + " of " + n, i < n ? 50 : 0, Due.glide(x, 0, Math.min(1000, 125 * i + 124)));
            }
        }
        IceRun x = new IceRun();
        Due.is("missing at 0", 0, Due.glide(x, 3, 0));
        Due.is("missing at 1000", 0, Due.glide(x, 3, 1000));
    }
}
