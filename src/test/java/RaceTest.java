/** Promises 18, 19, 20, 21, 22, 23: a race, its runs, their orders, who starts, what is shut, who is struck. */
public final class RaceTest {
    public static void main(String[] args) {
        races();
        whoEnters();
        drawnOrders();
        laterOrders();
        allSixteen();
        cutAndReverse();
        noMoreRuns();
        lawsBetweenRuns();
        starts();
        shuts();
        shutFirst();
        touches();
        struckInOrders();
        Due.done();
    }

    private static IceRun sleds(int... weights) {
        IceRun x = new IceRun();
        x.track(5, 2);
        for (int weight : weights) {
            x.sled(0, weight, 0, 5);
        }
        return x;
    }

    private static void races() {
        IceRun x = new IceRun();
        x.sled(0, 100, 0, 5);
        Due.no("no track", x.race());
        Due.is("no race", -1, x.begin(0));
        x.track(5, 2);
        Due.is("still none", -1, x.begin(0));
        Due.yes("race", x.race());
        Due.is("there is one", 1, x.count(4));
        Due.is("none begun", -1, x.order(0));
        Due.is("begin", 0, x.begin(0));
        Due.no("race in a run", x.race());
        Due.is("begin in a run", -1, x.begin(0));
        Due.is("the run goes on", 0, x.count(6));
        x.start();
        x.touch(0, 200);
        Due.yes("anew without a close", x.race());
        int[] counts = {5, 2, 1, 0, 1, 0, -1, 0, 0, 0, 0};
        for (int what = 0; what < counts.length; what++) {
            Due.is("anew count " + what, counts[what], x.count(what));
        }
        Due.is("gone order", -1, x.order(0));
        Due.is("gone rank", -1, x.rank(0, 1));
        Due.is("gone ice", Due.THROWN, Due.ice(x, 0, 0));
        Due.is("run 0 again", 0, x.begin(0));
        x.start();
        Due.is("no longer struck", 1, x.rank(0, 1));
        x.close();
        x.race();
        Due.is("points stay", 25, x.points(0, 0));
        Due.is("nobody enters yet", 0, x.count(10));
    }

    private static void whoEnters() {
        IceRun x = sleds(100, 150, 101);
        x.race();
        Due.laws(x, "weight 100;");
        x.begin(0);
        Due.is("up to the law's", 1, x.count(10));
        Due.is("the light one", 0, x.order(0));
        Due.is("alone", -1, x.order(1));
        x.start();
        Due.laws(x, "");
        Due.is("a later sled", 3, x.sled(0, 50, 0, 5));
        x.begin(0);
        Due.is("entered as run 0 began", 1, x.count(10));
        Due.is("no more in the order", -1, x.order(1));
        Due.no("a heavy one is not touched", x.touch(1, 200));
        Due.no("nor a later one", x.touch(3, 200));
        x.start();
        Due.laws(x, "weight 99;");
        Due.is("it stays in", 2, x.begin(0));
        x.start();
        Due.is("it alone has a rank", 1, x.close());
        x.race();
        Due.laws(x, "weight 50;");
        Due.is("a light one", 0, x.begin(0));
        Due.is("is the later one", 3, x.order(0));

        IceRun heavy = sleds(120);
        Due.laws(heavy, "weight 119;");
        heavy.race();
        Due.is("an order of nobody", -1, heavy.begin(0));
        Due.is("nothing goes on", -1, heavy.count(6));
        Due.is("nobody entered", 0, heavy.count(10));
        Due.laws(heavy, "weight 120;");
        Due.is("run 0 still", 0, heavy.begin(0));

        IceRun empty = sleds();
        empty.race();
        Due.is("no sleds", -1, empty.begin(0));
    }

    private static void drawnOrders() {
        int[] seeds = {0, 1, 2, 7, -1, 12345, Integer.MIN_VALUE, Integer.MAX_VALUE, 987654321};
        for (int seed : seeds) {
            IceRun x = new IceRun();
            x.track(5, 2);
            java.util.List<Integer> left = new java.util.ArrayList<>();
            for (int s = 0; s < 16; s++) {
                boolean light = s % 5 != 2;
                x.sled(0, light ? 100 : 160, 0, 5);
                if (light) {
                    left.add(s);
                }
            }
            Due.laws(x, "weight 150;");
            x.race();
            x.begin(seed);
            long state = seed;
            for (int i = 0; !left.isEmpty(); i++) {
                state = (int) (state * 1103515245L + 12345L);
                int at = (int) (((state & 0xffffffffL) / 65536) % left.size());
                Due.is("seed " + seed + " order " + i, left.remove(at), x.order(i));
            }
            Due.is("seed " + seed + " end", -1, x.order(13));
        }
        // By hand: seed 1 gives x = 1103527590, and 1103527590 / 65536 = 16838.
        IceRun x = sleds(100, 100, 100);
        x.race();
        x.begin(1);
        Due.is("16838 % 3", 16838 % 3, x.order(0));
        Due.is("below", -1, x.order(-1));
        Due.is("beyond", -1, x.order(3));
        Due.is("far", -1, x.order(Integer.MAX_VALUE));
        Due.is("far below", -1, x.order(Integer.MIN_VALUE));
    }

    /** Five sleds on a track that hardly wears them apart: their skills in a sharp bend make their ranks 3 1 5 2 4. */
    private static IceRun ranked(String laws) {
        IceRun x = new IceRun();
        x.track(5, 2);
        x.bend(0, 200, 9, 0);
        int[] skills = {5, 9, 1, 7, 3};
        for (int skill : skills) {
            x.sled(0, 50, 0, skill);
        }
        Due.laws(x, laws);
        x.race();
        x.begin(4);
        for (int i = 0; i < 5; i++) {
            x.start();
            x.water(0, 5);
            x.weather(51, -2, 0);
        }
        Due.is("five have one", 3, x.rank(0, 1));
        return x;
    }

    private static void order(String what, IceRun x, int... due) {
        for (int i = 0; i < due.length; i++) {
            Due.is(what + " order " + i, due[i], x.order(i));
        }
        Due.is(what + " end", -1, x.order(due.length));
    }

    private static void laterOrders() {
        IceRun x = ranked("");
        Due.is("the seed counts for run 0", 1, x.begin(77));
        order("by rank", x, 1, 3, 0, 4, 2);

        IceRun even = sleds(100, 100, 100, 100);
        even.race();
        even.begin(1);
        for (int i = 0; i < 4; i++) {
            even.start();
            even.water(0, 5);
            even.weather(51, -2, 0);
        }
        Due.is("all the first", 1, even.rank(3, 1));
        even.begin(1);
        order("by numbers", even, 0, 1, 2, 3);
    }

    private static void allSixteen() {
        IceRun x = new IceRun();
        x.track(5, 2);
        for (int s = 0; s < 16; s++) {
            x.sled(0, 80 + 8 * s, 0, 5);
        }
        x.race();
        x.begin(6);
        for (int i = 0; i < 16; i++) {
            x.start();
            x.water(0, 5);
            x.weather(51, -2, 0);
        }
        x.begin(6);
        order("sixteen", x, 15, 14, 13, 12, 11, 10, 9, 8, 7, 6, 5, 4, 3, 2, 1, 0);
    }

    private static void cutAndReverse() {
        IceRun x = ranked("cut 3;");
        x.begin(0);
        order("cut", x, 1, 3, 0);
        x = ranked("reverse 2;");
        x.begin(0);
        order("reverse", x, 3, 1, 0, 4, 2);
        x = ranked("cut 3; reverse 2;");
        x.begin(0);
        order("both", x, 3, 1, 0);
        x = ranked("cut 3; reverse 16;");
        x.begin(0);
        order("all that are left", x, 0, 3, 1);
        x = ranked("reverse 5; cut 5;");
        x.begin(0);
        order("all", x, 2, 4, 0, 3, 1);
        x = ranked("reverse 1; cut 1;");
        x.begin(0);
        order("the first", x, 1);

        x = ranked("cut 3;");
        Due.runWhole(x, 0);
        x.begin(0);
        Due.is("those that were cut have no rank", -1, x.order(3));
        x = ranked("cut 3;");
        x.begin(0);
        x.shut();
        Due.laws(x, "cut 4;");
        x.begin(0);
        order("a shut run cuts nobody", x, 1, 3, 0, 4);
    }

    private static void noMoreRuns() {
        IceRun x = sleds(100);
        x.race();
        for (int run = 0; run < 4; run++) {
            Due.is("begin " + run, run, x.begin(0));
            x.start();
        }
        Due.is("no run 4", -1, x.begin(0));
        Due.is("run 3 is whole", 0, Due.ice(x, 3, 0));
        Due.is("run 3 has a time", 0, x.time(3, 0, 0));
        Due.is("the order stays", 0, x.order(0));
        x.race();
        Due.is("the next race", 0, x.begin(0));
        Due.is("it is not down in it yet", -1, x.time(0, 0, 0));
        x.start();
        Due.is("run 1 of the former race is gone", -1, x.time(1, 0, 0));
        Due.is("one run, one rank", 1, x.rank(0, 1));
        Due.is("sum of one run", x.time(0, 0, 1), x.sum(0, 1));

        IceRun two = sleds(100);
        Due.laws(two, "runs 2;");
        two.race();
        Due.runWhole(two, 0);
        Due.is("run 1", 1, two.begin(0));
        two.shut();
        Due.is("no run 2", -1, two.begin(0));
        Due.is("none goes on", -1, two.count(6));
        two.close();
        two.race();
        Due.is("run 0", 0, two.begin(0));
    }

    private static void lawsBetweenRuns() {
        IceRun x = sleds(100);
        Due.laws(x, "runs 1;");
        x.race();
        Due.runWhole(x, 0);
        Due.is("no run 1", -1, x.begin(0));
        Due.laws(x, "runs 3;");
        Due.is("run 1 by the law that is", 1, x.begin(0));
        x.start();
        Due.laws(x, "runs 1;");
        Due.is("no run 2", -1, x.begin(0));
    }

    private static void starts() {
        IceRun x = sleds(100, 100, 100);
        x.race();
        Due.is("no run", -1, x.start());
        x.begin(5);
        int first = x.order(0);
        Due.is("none down", 0, x.count(7));
        Due.is("the first", 1250, x.start());
        Due.is("it came down", 1250, x.time(0, first, 1));
        Due.is("one down", 1, x.count(7));
        Due.is("not whole", 0, x.count(5));
        Due.is("no event", 0, x.count(8));
        Due.is("the second", 1250 + 5 * 4, x.start());
        Due.is("the second of the order", 1270, x.time(0, x.order(1), 1));
        // 504 / 8 = 63 by then.
        Due.is("the third", 1250 + 5 * 9, x.start());
        Due.is("whole", 1, x.count(5));
        Due.is("an event", 1, x.count(8));
        Due.is("none goes on", -1, x.count(6));
        Due.is("none down then", 0, x.count(7));
        Due.is("no more", -1, x.start());
        Due.is("the order stays", first, x.order(0));
    }

    private static void shuts() {
        IceRun x = sleds(100, 100);
        x.race();
        Due.is("none goes on", -1, x.shut());
        Due.runWhole(x, 0);
        Due.is("a whole one", -1, x.shut());
        x.begin(0);
        Due.is("nobody down", 0, x.shut());
        Due.is("none goes on then", -1, x.count(6));
        Due.is("the next number", 2, x.begin(0));
        x.start();
        Due.is("one down", 1, x.shut());
        Due.is("one whole", 1, x.count(5));
        Due.is("one event", 1, x.count(8));
        Due.is("none down then", 0, x.count(7));
        Due.is("no ice", Due.THROWN, Due.ice(x, 2, x.order(0)));
        Due.is("nothing lost", -1, x.lost(2, x.order(0), 0));
        Due.is("the last", 3, x.begin(0));
        x.start();
        x.start();
        Due.is("two whole", 2, x.count(5));
        Due.is("no ice of one that is shut", Due.THROWN, Due.ice(x, 1, 0));
        Due.is("two have a rank", 2, x.close());
    }

    private static void shutFirst() {
        IceRun x = sleds(100, 100);
        x.race();
        x.begin(0);
        x.start();
        x.shut();
        Due.is("nobody has a rank", -1, x.begin(0));
        Due.is("none is whole", -1, x.close());
        Due.is("they entered", 2, x.count(10));
        Due.yes("and can be struck", x.touch(0, 150));
        Due.is("there is a race", 1, x.count(4));
        Due.yes("another", x.race());
        Due.is("run 0", 0, x.begin(0));
    }

    private static void touches() {
        IceRun x = sleds(100, 100, 100);
        Due.no("no race", x.touch(0, 101));
        x.race();
        Due.no("none entered yet", x.touch(0, 101));
        x.begin(0);
        Due.no("as warm as the law's", x.touch(0, 100));
        Due.no("cold", x.touch(0, 0));
        int[][] wrong = {{-1, 150}, {3, 150}, {16, 150}, {0, -1}, {0, 201}, {Integer.MAX_VALUE, 150}, {0, Integer.MAX_VALUE}};
        for (int[] w : wrong) {
            Due.no("touch " + w[0] + " " + w[1], x.touch(w[0], w[1]));
        }
        Due.is("no event", 0, x.count(8));
        Due.yes("warm", x.touch(0, 101));
        Due.is("an event", 1, x.count(8));
        Due.no("again", x.touch(0, 150));
        Due.is("no more events", 1, x.count(8));
        Due.yes("the warmest", x.touch(2, 200));
        for (int i = 0; i < 3; i++) {
            Due.yes("all start", x.start() != -1);
        }
        Due.laws(x, "warm 10;");
        Due.no("the law's", x.touch(1, 10));
        Due.yes("above the law's", x.touch(1, 11));
        Due.is("nobody is left", -1, x.begin(0));
        Due.is("four events", 4, x.count(8));
        x.close();
        Due.no("no race then", x.touch(1, 200));
    }

    private static void struckInOrders() {
        IceRun x = ranked("");
        x.touch(3, 150);
        x.begin(0);
        order("without the one that is struck", x, 1, 0, 4, 2);
        Due.yes("struck in the run", x.touch(0, 150));
        order("it stays in the order", x, 1, 0, 4, 2);
        for (int i = 0; i < 4; i++) {
            x.start();
        }
        Due.yes("it came down", x.time(1, 0, 1) > 0);
        x.begin(0);
        Due.is("two have a rank", -1, x.order(3));
        Due.is("three are in", 2, x.order(2));
    }
}
