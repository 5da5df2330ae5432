/** Promises 30, 31, 32: a race that is closed, points of sleds and teams, counts. */
public final class SeasonTest {
    private static final int[] POINTS = {25, 20, 16, 13, 11, 10, 9, 8, 7, 6, 5, 4, 3, 2, 1, 0};

    public static void main(String[] args) {
        closeRefusals();
        allPlaces();
        keepAndShare();
        shareAtTheEnd();
        struckAndCut();
        seasons();
        pointRefusals();
        counts();
        Due.done();
    }

    private static void cleanRun(IceRun x, int cells) {
        x.begin(0);
        for (int i = 0; i < 16 && x.count(6) != -1; i++) {
            x.start();
            x.water(0, cells);
            x.weather(51, -2, 0);
        }
    }

    private static void closeRefusals() {
        IceRun x = new IceRun();
        x.track(5, 2);
        x.sled(0, 100, 0, 5);
        Due.is("no race", -1, x.close());
        x.race();
        Due.is("no run", -1, x.close());
        x.begin(0);
        Due.is("a run goes on", -1, x.close());
        x.start();
        x.begin(0);
        Due.is("another goes on", -1, x.close());
        x.shut();
        Due.is("nothing closed", 0, x.count(9));
        Due.is("closed", 1, x.close());
        Due.is("one closed", 1, x.count(9));
        Due.is("no race then", 0, x.count(4));
        Due.is("not again", -1, x.close());
        Due.is("no begin", -1, x.begin(0));
        Due.is("no order", -1, x.order(0));
        Due.is("no whole runs", 0, x.count(5));
        Due.is("no events", 0, x.count(8));
        Due.is("nobody entered", 0, x.count(10));
    }

    /** Sixteen sleds, each one skill or weight behind the one before. */
    private static IceRun sixteen() {
        IceRun x = new IceRun();
        x.track(5, 2);
        for (int s = 0; s < 16; s++) {
            x.sled(s % 4, 200 - 8 * s, 0, 5);
        }
        x.race();
        return x;
    }

    private static void allPlaces() {
        IceRun x = sixteen();
        cleanRun(x, 5);
        Due.is("sixteen have a rank", 16, x.close());
        int[] teams = new int[4];
        for (int s = 0; s < 16; s++) {
            Due.is("points of " + s, POINTS[s], x.points(0, s));
            teams[s % 4] += POINTS[s];
        }
        for (int team = 0; team < 4; team++) {
            Due.is("points of team " + team, teams[team], x.points(1, team));
        }
    }

    private static IceRun weights(String laws, int... weights) {
        IceRun x = new IceRun();
        x.track(5, 2);
        for (int s = 0; s < weights.length; s++) {
            x.sled(s % 2, weights[s], 0, 5);
        }
        Due.laws(x, laws);
        x.race();
        cleanRun(x, 5);
        return x;
    }

    private static void keepAndShare() {
        IceRun keep = weights("", 80, 96, 80, 72, 80, 96);
        Due.is("six", 6, keep.close());
        int[] kept = {16, 25, 16, 10, 16, 25};
        for (int s = 0; s < 6; s++) {
            Due.is("kept by " + s, kept[s], keep.points(0, s));
        }
        IceRun share = weights("share;", 80, 96, 80, 72, 80, 96);
        Due.is("six that share", 6, share.close());
        // 45 / 2 = 22 for the first two, 40 / 3 = 13 for the next three.
        int[] shared = {13, 22, 13, 10, 13, 22};
        for (int s = 0; s < 6; s++) {
            Due.is("shared by " + s, shared[s], share.points(0, s));
        }
        Due.is("team 0", 39, share.points(1, 0));
        Due.is("team 1", 54, share.points(1, 1));
        Due.is("team 2", 0, share.points(1, 2));

        IceRun late = weights("", 80, 80);
        Due.laws(late, "share;");
        late.close();
        Due.is("by the law as it is closed", 22, late.points(0, 0));
    }

    private static void shareAtTheEnd() {
        int[] even = new int[16];
        java.util.Arrays.fill(even, 80);
        IceRun x = weights("share;", even);
        x.close();
        int sum = 0;
        for (int p : POINTS) {
            sum += p;
        }
        Due.is("all sixteen share", sum / 16, x.points(0, 15));
        even[0] = 88;
        x = weights("share;", even);
        x.close();
        Due.is("the first alone", 25, x.points(0, 0));
        Due.is("fifteen share", (sum - 25) / 15, x.points(0, 15));
    }

    private static void struckAndCut() {
        IceRun x = weights("cut 3;", 96, 88, 80, 72);
        cleanRun(x, 5);
        x.touch(0, 150);
        Due.is("two have a rank", 2, x.close());
        int[] due = {0, 25, 20, 0};
        for (int s = 0; s < 4; s++) {
            Due.is("points of " + s, due[s], x.points(0, s));
        }
        IceRun none = weights("", 96);
        none.touch(0, 150);
        Due.is("nobody has a rank", 0, none.close());
        Due.is("closed all the same", 1, none.count(9));
        Due.is("no points", 0, none.points(0, 0));
    }

    private static void seasons() {
        IceRun x = weights("", 96, 88);
        x.close();
        x.sled(0, 200, 0, 5);
        Due.is("a new sled has none", 0, x.points(0, 2));
        x.track(8, 3);
        x.race();
        Due.is("points stay", 25, x.points(0, 0));
        cleanRun(x, 8);
        x.race();
        Due.is("none without a close", 25, x.points(0, 0));
        cleanRun(x, 8);
        Due.is("three", 3, x.close());
        Due.is("second then", 45, x.points(0, 0));
        Due.is("third then", 36, x.points(0, 1));
        Due.is("first then", 25, x.points(0, 2));
        Due.is("team", 70, x.points(1, 0));
        Due.is("two closed", 2, x.count(9));
    }

    private static void pointRefusals() {
        IceRun x = new IceRun();
        x.sled(0, 100, 0, 5);
        int[][] wrong = {{-1, 0}, {2, 0}, {0, -1}, {0, 1}, {0, 16}, {1, -1}, {1, 4}, {0, Integer.MAX_VALUE}, {1, Integer.MIN_VALUE}};
        for (int[] w : wrong) {
            Due.is("points " + w[0] + " " + w[1], -1, x.points(w[0], w[1]));
        }
        Due.is("a team without sleds", 0, x.points(1, 3));
    }

    private static void counts(String what, IceRun x, int... due) {
        for (int i = 0; i < due.length; i++) {
            Due.is(what + ": count " + i, due[i], x.count(i));
        }
    }

    private static void counts() {
        IceRun x = new IceRun();
        x.track(9, 4);
        x.sled(0, 100, 0, 5);
        x.sled(0, 100, 0, 5);
        x.sled(0, 120, 0, 5);
        Due.laws(x, "weight 110;");
        x.feed(0, 0, 0, 0, 0);
        counts("ahead of a race", x, 9, 4, 3, 20, 0, 0, -1, 0, 0, 0, 0);
        x.race();
        counts("a race", x, 9, 4, 3, 20, 1, 0, -1, 0, 0, 0, 0);
        x.begin(0);
        counts("a run", x, 9, 4, 3, 20, 1, 0, 0, 0, 0, 0, 2);
        x.start();
        x.touch(1, 150);
        counts("one down", x, 9, 4, 3, 20, 1, 0, 0, 1, 1, 0, 2);
        x.start();
        counts("whole", x, 9, 4, 3, 20, 1, 1, -1, 0, 2, 0, 2);
        x.begin(0);
        counts("the next", x, 9, 4, 3, 20, 1, 1, 1, 0, 2, 0, 2);
        x.shut();
        counts("shut", x, 9, 4, 3, 20, 1, 1, -1, 0, 2, 0, 2);
        x.close();
        counts("closed", x, 9, 4, 3, 20, 0, 0, -1, 0, 0, 1, 0);
        int[] others = {-1, 11, Integer.MIN_VALUE, Integer.MAX_VALUE};
        for (int what : others) {
            Due.is("count " + what, -1, x.count(what));
        }
    }
}
