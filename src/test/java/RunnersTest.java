/** Promises 4, 5, 6: the rows of the runners, copies of them and the glide. */
public final class RunnersTest {
    public static void main(String[] args) {
        refusals();
        sorts();
        bounds();
        copies();
        copyRefusals();
        glideRefusals();
        inTheTime();
        Due.done();
    }

    private static void row(String what, IceRun x, int kind, int... due) {
        for (int i = 0; i < 9; i++) {
            Due.is(what + " entry " + i, i < due.length ? due[i] : 0, Due.glide(x, kind, Math.min(1000, i * 125 + 124)));
        }
    }

    private static void refusals() {
        IceRun x = new IceRun();
        x.runners(1, 2, 2, 5, 1);
        int[][] wrong = {{-1, 0, 1}, {4, 0, 1}, {1, -1, 1}, {1, 4, 1}, {1, 0, 10}, {1, 1, -1}, {1, 2, -1},
            {1, 0, -1}, {1, 3, 10}, {1, 2, Integer.MAX_VALUE}, {1, 2, Integer.MIN_VALUE}};
        for (int[] w : wrong) {
            Due.no("runners " + w[0] + " " + w[1] + " " + w[2], x.runners(w[0], w[1], w[2], 9, 9));
        }
        row("refused", x, 1, 5, 6);
        Due.yes("missing", x.runners(1, 3, Integer.MIN_VALUE, 9, 9));
        row("missing", x, 1);
        Due.is("missing", -2, x.copy(1, 0, 1, 0, 0));
        Due.yes("missing with nine", x.runners(1, 3, 9, 9, 9));
        Due.yes("empty", x.runners(1, 0, 0, 9, 9));
        row("empty", x, 1);
        Due.is("empty is not missing", 0, x.copy(1, 0, 1, 0, 0));
    }

    private static void sorts() {
        IceRun x = new IceRun();
        Due.yes("bytes", x.runners(0, 0, 4, 100, 50));
        row("bytes", x, 0, 100, -106, -56, -6);
        Due.yes("shorts", x.runners(1, 1, 4, 65500, 20));
        row("shorts", x, 1, -36, -16, 4, 24);
        Due.yes("ints", x.runners(2, 2, 3, 65500, -65400));
        row("ints", x, 2, 200, 100, -200);
        Due.yes("ints that wrap", x.runners(3, 2, 3, Integer.MAX_VALUE, 1));
        row("ints that wrap", x, 3, 200, -200, -200);
        Due.yes("bytes of ints that wrap", x.runners(3, 0, 9, Integer.MAX_VALUE, 3));
        row("bytes of ints that wrap", x, 3, -1, 2, 5, 8, 11, 14, 17, 20, 23);
        Due.yes("shorter anew", x.runners(3, 0, 1, 7, 0));
        row("shorter anew", x, 3, 7);
    }

    private static void bounds() {
        IceRun x = new IceRun();
        x.runners(0, 1, 5, 198, 1);
        row("most", x, 0, 198, 199, 200, 200, 200);
        x.runners(0, 1, 5, -198, -1);
        row("least", x, 0, -198, -199, -200, -200, -200);
        x.runners(0, 2, 9, 1, 1);
        Due.is("at 0", 1, Due.glide(x, 0, 0));
        Due.is("at 124", 1, Due.glide(x, 0, 124));
        Due.is("at 125", 2, Due.glide(x, 0, 125));
        Due.is("at 999", 8, Due.glide(x, 0, 999));
        Due.is("at 1000", 9, Due.glide(x, 0, 1000));
        x.runners(0, 2, 8, 1, 1);
        Due.is("at 1000 without", 0, Due.glide(x, 0, 1000));
    }

    private static void copies() {
        IceRun x = new IceRun();
        x.runners(0, 2, 5, 1, 1);
        x.runners(1, 2, 4, 100, 10);
        Due.is("copy", 3, x.copy(0, 2, 1, 1, 3));
        row("copied", x, 1, 100, 3, 4, 5);
        row("source", x, 0, 1, 2, 3, 4, 5);
        Due.is("none at the ends", 0, x.copy(0, 5, 1, 4, 0));
        Due.is("onto itself, up", 4, x.copy(0, 0, 0, 1, 4));
        row("up", x, 0, 1, 1, 2, 3, 4);
        Due.is("onto itself, down", 4, x.copy(0, 1, 0, 0, 4));
        row("down", x, 0, 1, 2, 3, 4, 4);
        Due.is("all", 4, x.copy(1, 0, 0, 0, 4));
        row("all", x, 0, 100, 3, 4, 5, 4);
        x.runners(2, 2, 1, 300, 0);
        x.copy(2, 0, 0, 0, 1);
        x.runners(2, 2, 1, 0, 0);
        Due.is("a copy stays", 200, Due.glide(x, 0, 0));
    }

    private static void copyRefusals() {
        IceRun x = new IceRun();
        x.runners(0, 0, 3, 1, 1);
        x.runners(1, 0, 2, 10, 1);
        x.runners(2, 1, 2, 20, 1);
        int[][] wrong = {
            {-1, 0, 0, 0, 1, -1}, {4, 0, 0, 0, 1, -1}, {0, 0, -1, 0, 1, -1}, {0, 0, 4, 0, 1, -1}, {3, 0, 4, 0, -1, -1},
            {3, 0, 0, 0, 1, -2}, {0, 0, 3, 0, 1, -2}, {3, 0, 3, 0, 0, -2}, {3, 9, 2, 9, -1, -2},
            {0, 0, 2, 0, 1, -3}, {2, 0, 1, 0, 0, -3}, {0, 9, 2, 9, -1, -3},
            {0, 0, 1, 0, -1, -4}, {0, -1, 1, 0, 1, -4}, {0, 0, 1, -1, 1, -4}, {0, 1, 1, 0, 3, -4},
            {0, 0, 1, 0, 3, -4}, {0, 0, 1, 1, 2, -4}, {0, 4, 1, 0, 0, -4}, {0, 0, 1, 3, 0, -4},
            {0, 1, 1, 1, Integer.MAX_VALUE, -4}, {0, Integer.MAX_VALUE, 1, 0, 1, -4},
            {0, 0, 1, Integer.MAX_VALUE, 1, -4}, {0, Integer.MIN_VALUE, 1, 0, 1, -4}, {0, 0, 1, 0, Integer.MIN_VALUE, -4}};
        for (int[] w : wrong) {
            Due.is("copy " + w[0] + " " + w[1] + " " + w[2] + " " + w[3] + " " + w[4], w[5], x.copy(w[0], w[1], w[2], w[3], w[4]));
        }
        row("refused 0", x, 0, 1, 2, 3);
        row("refused 1", x, 1, 10, 11);
        row("refused 2", x, 2, 20, 21);
    }

    private static void glideRefusals() {
        IceRun x = new IceRun();
        int[][] wrong = {{-1, 0}, {4, 0}, {0, -1}, {0, 1001}, {Integer.MIN_VALUE, 0}, {0, Integer.MAX_VALUE}};
        for (int[] w : wrong) {
            Due.is("glide " + w[0] + " " + w[1], Due.THROWN, Due.glide(x, w[0], w[1]));
        }
        Due.is("glide of a missing row", 0, Due.glide(x, 3, 1000));
    }

    private static void inTheTime() {
        IceRun x = new IceRun();
        x.track(5, 2);
        x.runners(2, 1, 9, 10, 5);
        x.sled(0, 100, 2, 5);
        x.race();
        x.begin(0);
        // Entry 500 / 125 = 4 is 30.
        Due.is("total with a glide", 5 * (250 + 30), x.start());
    }
}
