/** Promises 26, 27, 28, 29: sums and ranks as known, the ice's part, time lost bend by bend. */
public final class StandingTest {
    public static void main(String[] args) {
        knownByEvents();
        evenRanks();
        cutOnes();
        icePart();
        iceRefusals();
        lostBetweenGates();
        lostOverMissingGates();
        lostRefusals();
        Due.done();
    }

    private static void known(String what, IceRun x, int n, int[] ranks, int[] sums) {
        for (int s = 0; s < ranks.length; s++) {
            Due.is(what + ": rank of " + s + " behind " + n, ranks[s], x.rank(s, n));
            Due.is(what + ": sum of " + s + " behind " + n, sums[s], x.sum(s, n));
        }
    }

    /** Three sleds by skills 9, 5, 1 in a sharp bend; water and cold make the ice new behind each. */
    private static IceRun threeSleds() {
        IceRun x = new IceRun();
        x.track(5, 2);
        x.bend(0, 200, 9, 0);
        x.sled(0, 56, 0, 5);
        x.sled(1, 56, 0, 9);
        x.sled(1, 56, 0, 1);
        x.race();
        return x;
    }

    private static void cleanRun(IceRun x) {
        x.begin(0);
        for (int i = 0; i < 16 && x.count(6) != -1; i++) {
            x.start();
            x.water(0, 5);
            x.weather(51, -2, 0);
        }
    }

    private static void knownByEvents() {
        IceRun x = threeSleds();
        Due.is("no events", -1, x.rank(0, 0));
        cleanRun(x);
        // A cell takes 200 + 62 - 7, the sharp bend 36, 0 and 72 more.
        int base = 5 * 255;
        known("nothing known", x, 0, new int[]{-1, -1, -1}, new int[]{-1, -1, -1});
        known("one run", x, 1, new int[]{2, 1, 3}, new int[]{base + 36, base, base + 72});
        Due.is("no such events", -1, x.rank(0, 2));
        Due.is("no sum of such events", -1, x.sum(0, 2));
        Due.is("below", -1, x.rank(0, -1));
        Due.is("no sum below", -1, x.sum(0, -1));
        Due.is("far", -1, x.rank(0, Integer.MAX_VALUE));
        x.touch(1, 150);
        known("one struck", x, 2, new int[]{1, -1, 2}, new int[]{base + 36, -1, base + 72});
        known("known before", x, 1, new int[]{2, 1, 3}, new int[]{base + 36, base, base + 72});
        x.begin(0);
        x.start();
        Due.is("a run that goes on counts for nothing", base + 36, x.sum(0, 2));
        x.shut();
        x.water(0, 5);
        x.weather(51, -2, 0);
        Due.is("nor does a shut one", base + 36, x.sum(0, 2));
        cleanRun(x);
        known("two runs", x, 3, new int[]{1, -1, 2}, new int[]{2 * base + 72, -1, 2 * base + 144});
        known("as it was", x, 2, new int[]{1, -1, 2}, new int[]{base + 36, -1, base + 72});
        x.touch(0, 150);
        x.touch(2, 150);
        known("all struck", x, 5, new int[]{-1, -1, -1}, new int[]{-1, -1, -1});
        known("one by one", x, 4, new int[]{-1, -1, 1}, new int[]{-1, -1, 2 * base + 144});
        int[] others = {-1, 3, 16, Integer.MAX_VALUE, Integer.MIN_VALUE};
        for (int s : others) {
            Due.is("rank of " + s, -1, x.rank(s, 1));
            Due.is("sum of " + s, -1, x.sum(s, 1));
        }
        x.close();
        Due.is("closed", -1, x.rank(0, 1));
        Due.is("closed, sum", -1, x.sum(0, 1));
    }

    private static void evenRanks() {
        IceRun x = new IceRun();
        x.track(5, 2);
        int[] weights = {64, 56, 64, 63, 48 + 8};
        for (int weight : weights) {
            x.sled(0, weight, 0, 5);
        }
        x.sled(0, 100, 0, 5);
        Due.laws(x, "weight 99;");
        x.race();
        cleanRun(x);
        int heavy = 5 * (200 + 62 - 8);
        int light = 5 * (200 + 62 - 7);
        known("even", x, 1, new int[]{1, 3, 1, 3, 3, -1}, new int[]{heavy, light, heavy, light, light, -1});
    }

    private static void cutOnes() {
        IceRun x = threeSleds();
        Due.laws(x, "cut 2;");
        cleanRun(x);
        cleanRun(x);
        int base = 5 * 255;
        known("cut", x, 2, new int[]{2, 1, -1}, new int[]{2 * base + 72, 2 * base, -1});
        known("known before the cut", x, 1, new int[]{2, 1, 3}, new int[]{base + 36, base, base + 72});
        x.touch(2, 150);
        Due.is("one that was cut can be struck", 3, x.count(8));
    }

    private static void icePart() {
        IceRun x = new IceRun();
        x.track(5, 2);
        x.runners(1, 2, 9, 100, 0);
        x.sled(0, 200, 1, 0);
        x.sled(0, 200, 1, 0);
        x.sled(0, 200, 1, 0);
        x.race();
        x.begin(0);
        int first = x.order(0);
        int second = x.order(1);
        int third = x.order(2);
        x.start();
        // Ruts of 4: 8 more in a cell.
        x.start();
        x.water(0, 5);
        // No ruts, hardness 396: 604 / 8 = 75 in place of 62.
        Due.is("not whole", Due.THROWN, Due.ice(x, 0, first));
        x.start();
        int[] standards = {5 * 250, 5 * 258, 5 * 263};
        int all = standards[0] + standards[1] + standards[2];
        Due.is("first", 3 * standards[0] - all, Due.ice(x, 0, first));
        Due.is("second", 3 * standards[1] - all, Due.ice(x, 0, second));
        Due.is("third", 3 * standards[2] - all, Due.ice(x, 0, third));
        x.touch(second, 150);
        x.weather(9, 9, 0);
        Due.is("kept", 3 * standards[0] - all, Due.ice(x, 0, first));
        x.begin(0);
        x.start();
        x.start();
        int gap = Due.ice(x, 1, x.order(1)) - Due.ice(x, 1, x.order(0));
        // Behind a start of weight 200 ruts are 4 more and hardness goes from 313 to 311: 86 from 85.
        Due.is("two started", 2 * 5 * 9, gap);
        Due.is("the struck one did not", Due.THROWN, Due.ice(x, 1, second));
    }

    private static void iceRefusals() {
        IceRun x = threeSleds();
        cleanRun(x);
        int[][] wrong = {{-1, 0}, {1, 0}, {4, 0}, {0, -1}, {0, 3}, {0, 16}, {Integer.MAX_VALUE, 0}, {0, Integer.MIN_VALUE}};
        for (int[] w : wrong) {
            Due.is("ice " + w[0] + " " + w[1], Due.THROWN, Due.ice(x, w[0], w[1]));
        }
        Due.is("alike ice", 0, Due.ice(x, 0, 2));
        x.close();
        Due.is("closed", Due.THROWN, Due.ice(x, 0, 0));
    }

    private static void lost(String what, IceRun x, int run, int s, int... due) {
        for (int k = 0; k < due.length; k++) {
            Due.is(what + ": lost by " + s + " in " + k, due[k], x.lost(run, s, k));
        }
    }

    private static void lostBetweenGates() {
        IceRun x = new IceRun();
        x.track(9, 4);
        x.bend(0, 200, 5, 0);
        x.bend(4, 200, 0, 0);
        x.sled(0, 56, 0, 9);
        x.sled(0, 64, 0, 7);
        x.race();
        x.begin(0);
        x.start();
        Due.is("not whole", -1, x.lost(0, x.order(0), 0));
        x.water(0, 9);
        x.weather(51, -2, 0);
        x.start();
        // By cell the heavier one is 1 faster; in the sharp bend it loses 10.
        lost("the light one", x, 0, 0, 0, 3, 3);
        lost("the heavy one", x, 0, 1, 10 - 3, 0, 0);
    }

    private static void lostOverMissingGates() {
        IceRun x = new IceRun();
        x.track(10, 6);
        x.sled(0, 56, 0, 5);
        x.sled(0, 56, 0, 5);
        x.sled(0, 56, 0, 5);
        x.race();
        x.begin(0);
        int a = x.order(0);
        int b = x.order(1);
        int c = x.order(2);
        x.start();
        x.water(0, 10);
        x.weather(51, -2, 0);
        x.eye(2, 0, 100);
        x.eye(2, 1, 100);
        x.eye(3, 0, 100);
        x.eye(3, 1, 100);
        x.eye(4, 0, 11);
        x.start();
        x.water(0, 10);
        x.weather(51, -2, 0);
        x.eye(1, 0, -4);
        x.eye(2, 1, 0);
        x.eye(4, 0, 100);
        x.eye(4, 1, 100);
        x.eye(5, 0, 100);
        x.eye(5, 1, 100);
        x.start();
        // True times are 510 a gate for each. a: 510 1020 1530 2040 2550; b: 510 - - 2051 2550; c: 506 1020 - - -.
        lost("all gates", x, 0, a, 4, 0, 0, 0, 11);
        lost("11 over three bends", x, 0, b, 4, 4, 4, 3, 0);
        lost("nothing is told behind gate 2", x, 0, c, 0, 4, -1, -1, -1);
    }

    private static void lostRefusals() {
        IceRun x = threeSleds();
        cleanRun(x);
        lost("one bend", x, 0, 0, 36);
        int[][] wrong = {{-1, 0, 0}, {1, 0, 0}, {4, 0, 0}, {0, -1, 0}, {0, 3, 0}, {0, 16, 0}, {0, 0, -1}, {0, 0, 1},
            {0, 0, Integer.MAX_VALUE}, {0, 0, Integer.MIN_VALUE}, {Integer.MIN_VALUE, 0, 0}};
        for (int[] w : wrong) {
            Due.is("lost " + w[0] + " " + w[1] + " " + w[2], -1, x.lost(w[0], w[1], w[2]));
        }
        x.touch(1, 150);
        lost("the least may be of one that is struck", x, 0, 0, 36);
        x.begin(0);
        x.start();
        x.start();
        Due.is("did not start", -1, x.lost(1, 1, 0));
        x.close();
        Due.is("closed", -1, x.lost(0, 0, 0));
    }
}
