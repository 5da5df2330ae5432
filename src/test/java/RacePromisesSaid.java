/** The document's words from promise 18 to its last line, each with its check. */
final class RacePromisesSaid {
    private static final int NONE = IceRun.NONE;

    private RacePromisesSaid() {
    }

    static void all() {
        race();
        begin();
        order();
        start();
        shut();
        touch();
        time();
        twice();
        sum();
        rank();
        ice();
        lost();
        close();
        points();
        count();
        notPromised();
    }

    private static void race() {
        Document.names("Promise 18: race `boolean race()`:");
        Document.says("A RACE begins, with RUN 0 next;");
        for (States state : States.WITH_TRACK) {
            IceRun x = state.make();
            if (x.count(6) == NONE) {
                Due.yes("race in " + state, x.race());
                Due.is("there is one in " + state, 1, x.count(4));
                Due.is("run 0 next in " + state, state == States.EMPTY_RACE ? NONE : 0, x.begin(0));
            }
        }

        Document.says("what was kept of the former one is gone, POINTS stay.");
        IceRun x = Fixtures.sleds(100, 100);
        x.race();
        Due.runWhole(x, 0);
        x.close();
        int points = x.points(0, 0);
        x.race();
        Due.runWhole(x, 0);
        x.touch(0, 101);
        x.begin(0);
        x.shut();
        x.race();
        Due.is("order", NONE, x.order(0));
        Due.is("whole runs", 0, x.count(5));
        Due.is("events", 0, x.count(8));
        Due.is("entered", 0, x.count(10));
        Due.is("time", NONE, x.time(0, 0, 0));
        Due.is("twice", NONE, x.twice(0, 0, 0));
        Due.is("rank", NONE, x.rank(1, 1));
        Due.is("sum", NONE, x.sum(1, 1));
        Due.is("ice", Due.THROWN, Due.ice(x, 0, 0));
        Due.is("lost", NONE, x.lost(0, 0, 0));
        Due.is("points stay", points, x.points(0, 0));
        x.begin(0);
        Due.is("time of 0 in the next run 0", NONE, x.time(0, 0, 0));
        Due.is("time of 1 in the next run 0", NONE, x.time(0, 1, 0));
        x.start();
        x.start();
        Due.yes("no longer struck", x.rank(0, 1) != NONE);

        Document.says("False: no TRACK, a RUN goes on.");
        Twins.no("race without a track", y -> Twins.bit(y.race()), States.FRESH);
        Twins.no("race in a run", y -> Twins.bit(y.race()), States.IN_RUN);
    }

    private static void begin() {
        Document.names("Promise 19: begin `int begin(int seed)`:");
        Document.says("The next RUN begins: its number.");
        IceRun x = Fixtures.sleds(100, 100, 100);
        x.race();
        for (int run = 0; run < 4; run++) {
            Due.is("number", run, x.begin(7));
            Due.is("it goes on", run, x.count(6));
            Due.is("nobody is down", 0, x.count(7));
            x.start();
            x.start();
            x.start();
        }

        Document.says("(The SEED counts for RUN 0.)");
        int[] seeds = {0, 1, -5, Integer.MAX_VALUE, Integer.MIN_VALUE};
        for (int seed : seeds) {
            x = Fixtures.skilled("");
            Fixtures.cleanRun(x, 4);
            x.begin(seed);
            Fixtures.orderIs(x, 1, 3, 0, 4, 2);
        }
        x = Fixtures.sleds(100, 100, 100);
        x.race();
        x.begin(1);
        // 16838 % 3 = 2, 38526 % 2 = 0.
        Fixtures.orderIs(x, 2, 0, 1);
        x = Fixtures.sleds(100, 100, 100);
        x.race();
        x.begin(-1);
        // -1103502900 >>> 16 = 48697, % 3 = 1; 288979989 >>> 16 = 4409, % 2 = 1.
        Fixtures.orderIs(x, 1, 2, 0);

        Document.says("NONE: no RACE, one goes on, none more begins, or its ORDER would have nobody.");
        Twins.none("begin without a race", y -> y.begin(7), States.OUT_OF_RACE);
        Twins.none("begin in a run", y -> y.begin(7), States.IN_RUN);
        Twins.none("begin behind the last", y -> y.begin(7), States.DONE);
        Twins.none("begin with nobody", y -> y.begin(7), States.EMPTY_RACE, States.SHUT_FIRST, States.ALL_STRUCK);
    }

    private static void order() {
        Document.names("Promise 20: order `int order(int i)`:");
        Document.says("The i-th of the ORDER of the RUN that goes on, or went on latest in this RACE.");
        IceRun x = Fixtures.skilled("cut 2;");
        x.begin(1);
        boolean[] seen = new boolean[5];
        for (int i = 0; i < 5; i++) {
            seen[x.order(i)] = true;
        }
        for (int s = 0; s < 5; s++) {
            Due.yes("in the order", seen[s]);
        }
        int[] drawn = {x.order(0), x.order(1), x.order(2), x.order(3), x.order(4)};
        for (int i = 0; i < 5; i++) {
            x.start();
            Fixtures.mend(x);
            Fixtures.orderIs(x, drawn);
        }
        x.begin(1);
        Fixtures.orderIs(x, 1, 3);
        x.shut();
        Fixtures.orderIs(x, 1, 3);

        Document.says("NONE: there are not so many, none was.");
        int[] others = {-1, 2, 16, Integer.MIN_VALUE, Integer.MAX_VALUE};
        for (int i : others) {
            Due.is("order " + i, NONE, x.order(i));
        }
        States[] noneWas = {States.FRESH, States.TRACKED, States.RACED, States.EMPTY_RACE, States.CLOSED, States.FULL};
        for (States state : noneWas) {
            Due.is("order 0 in " + state, NONE, state.make().order(0));
        }
    }

    private static void start() {
        Document.names("Promise 21: start `int start()`:");
        Document.says("The next SLED of the ORDER comes down: its total.");
        IceRun x = Fixtures.skilled("");
        x.begin(4);
        int[] totals = {1280 + 36, 1280, 1280 + 72, 1280 + 18, 1280 + 54};
        for (int i = 0; i < 5; i++) {
            Due.is("down", i, x.count(7));
            Due.is("total of " + x.order(i), totals[x.order(i)], x.start());
            Fixtures.mend(x);
        }
        Due.is("whole", 1, x.count(5));

        Document.says("NONE: no RUN goes on.");
        Twins.none("start", IceRun::start, States.OUT_OF_RUN);
    }

    private static void shut() {
        Document.names("Promise 22: shut `int shut()`:");
        Document.says("The RUN is SHUT: how many had come down in it.");
        for (int down = 0; down < 3; down++) {
            IceRun x = Fixtures.sleds(100, 100, 100);
            x.race();
            Due.runWhole(x, 0);
            x.begin(0);
            for (int i = 0; i < down; i++) {
                x.start();
            }
            Due.is("down", down, x.shut());
            Due.is("none goes on", NONE, x.count(6));
            Due.is("one is whole", 1, x.count(5));
            Due.is("the next", 2, x.begin(0));
        }

        Document.says("NONE: none goes on.");
        Twins.none("shut", IceRun::shut, States.OUT_OF_RUN);
    }

    private static void touch() {
        Document.names("Promise 23: touch `boolean touch(int s, int warmth)`:");
        Document.says("A SLED's RUNNERS are TOUCHED: whether it is STRUCK by that.");
        IceRun x = Fixtures.sleds(100, 100);
        Due.laws(x, "warm 40;");
        x.race();
        Due.runWhole(x, 0);
        Due.no("as warm as the law's", x.touch(0, 40));
        Due.is("no event", 1, x.count(8));
        Due.yes("warmer", x.touch(0, 41));
        Due.is("an event", 2, x.count(8));
        Due.is("struck", NONE, x.rank(0, 2));
        Due.no("not by that", x.touch(0, 41));
        Due.is("no event", 2, x.count(8));

        Document.says("(WARMTH 0 to 200; false for others, no such SLED, no RACE in which it ENTERED.)");
        Due.no("0", x.touch(1, 0));
        int[] warmths = {-1, 201, Integer.MIN_VALUE, Integer.MAX_VALUE};
        for (int warmth : warmths) {
            Twins.no("touch 0 " + warmth, y -> Twins.bit(y.touch(0, warmth)), States.ALL);
        }
        Due.yes("200", x.touch(1, 200));
        int[] sleds = {-1, 16, Integer.MIN_VALUE, Integer.MAX_VALUE};
        for (int s : sleds) {
            Twins.no("touch " + s + " 200", y -> Twins.bit(y.touch(s, 200)), States.ALL);
        }
        Due.no("behind the last", x.touch(2, 200));
        Twins.no("touch without a race", y -> Twins.bit(y.touch(0, 200)), States.OUT_OF_RACE);
        Twins.no("touch without a run", y -> Twins.bit(y.touch(0, 200)), States.RACED, States.EMPTY_RACE);
        Twins.no("touch of one too heavy", y -> Twins.bit(y.touch(4, 200)), States.IN_RACE);
    }

    /** Two runs of three gates, the second of which goes on with one of two sleds down. */
    private static IceRun twoRuns() {
        IceRun x = Fixtures.tracked(6, 3);
        x.sled(0, 64, 0, 5);
        x.sled(0, 56, 0, 5);
        x.eye(1, 0, -3);
        x.eye(1, 1, 4);
        x.race();
        Fixtures.cleanRun(x, 0);
        Fixtures.breakEyes(x, 1);
        x.begin(0);
        x.start();
        return x;
    }

    private static void time() {
        Document.names("Promise 24: time `int time(int run, int s, int gate)`:");
        Document.says("Time of a SLED at a GATE in a RUN of this RACE that is WHOLE or goes on.");
        IceRun x = twoRuns();
        int[][] whole = {{0, 3 * 254 - 3, 6 * 254}, {0, 3 * 255 - 3, 6 * 255}};
        for (int s = 0; s < 2; s++) {
            for (int gate = 0; gate < 3; gate++) {
                Due.is("in run 0 of " + s + " at " + gate, whole[s][gate], x.time(0, s, gate));
            }
        }
        Due.is("in run 1", 6 * 254, x.time(1, 0, 2));

        Document.says("NONE: MISSING, it has not come down there, no such ones.");
        Due.is("missing", NONE, x.time(1, 0, 1));
        Due.is("not down", NONE, x.time(1, 1, 2));
        noSuchOnes(x, false);
        x.shut();
        Due.is("neither whole nor going on", NONE, x.time(1, 0, 2));
        x.close();
        Due.is("no race", NONE, x.time(0, 0, 2));
    }

    private static void noSuchOnes(IceRun x, boolean twice) {
        int[][] wrong = {{-1, 0, 2}, {2, 0, 2}, {4, 0, 2}, {0, -1, 2}, {0, 2, 2}, {0, 16, 2}, {0, 0, -1}, {0, 0, 3}, {0, 0, 6},
            {Integer.MAX_VALUE, 0, 0}, {0, Integer.MIN_VALUE, 0}, {0, 0, Integer.MAX_VALUE}};
        for (int[] w : wrong) {
            int got = twice ? x.twice(w[0], w[1], w[2]) : x.time(w[0], w[1], w[2]);
            Due.is("of " + w[0] + " " + w[1] + " " + w[2], NONE, got);
        }
    }

    private static void twice() {
        Document.names("Promise 25: twice `int twice(int run, int s, int gate)`:");
        Document.says("DOUBLE likewise (0 at GATE 0).");
        IceRun x = twoRuns();
        int[] whole = {0, 7, 0};
        for (int s = 0; s < 2; s++) {
            for (int gate = 0; gate < 3; gate++) {
                Due.is("in run 0 of " + s + " at " + gate, whole[gate], x.twice(0, s, gate));
            }
        }
        for (int gate = 0; gate < 3; gate++) {
            Due.is("in run 1 at " + gate, 0, x.twice(1, 0, gate));
        }

        Document.says("NONE: it has not come down there, no such ones.");
        Due.is("not down", NONE, x.twice(1, 1, 2));
        noSuchOnes(x, true);
        x.shut();
        Due.is("neither whole nor going on", NONE, x.twice(1, 0, 2));
        x.close();
        Due.is("no race", NONE, x.twice(0, 0, 2));
    }

    /** Events: run 0, sled 1 struck, run 1 without it and sled 2 (cut), sled 0 struck. */
    private static IceRun known() {
        IceRun x = Fixtures.skilled("cut 3;");
        Fixtures.cleanRun(x, 4);
        x.touch(1, 101);
        Fixtures.cleanRun(x, 4);
        x.touch(0, 101);
        return x;
    }

    private static void sum() {
        Document.names("Promise 26: sum `int sum(int s, int n)`:");
        Document.says("SUM of a SLED as known behind the first n EVENTS.");
        IceRun x = known();
        int[][] sums = {
            {NONE, 1316, 1316, 2 * 1316, NONE}, {NONE, 1280, NONE, NONE, NONE}, {NONE, 1352, 1352, NONE, NONE},
            {NONE, 1298, 1298, 2 * 1298, 2 * 1298}, {NONE, 1334, 1334, 2 * 1334, 2 * 1334}};
        for (int s = 0; s < 5; s++) {
            for (int n = 0; n < 5; n++) {
                Due.is("sum of " + s + " behind " + n, sums[s][n], x.sum(s, n));
            }
        }

        Document.says("NONE: it has no RANK then, no such ones.");
        Due.is("struck", NONE, x.sum(1, 2));
        Due.is("did not start", NONE, x.sum(2, 3));
        Due.is("nothing whole", NONE, x.sum(3, 0));
        int[][] wrong = {{3, -1}, {3, 5}, {-1, 1}, {5, 1}, {16, 1}, {3, Integer.MAX_VALUE}, {3, Integer.MIN_VALUE}, {Integer.MAX_VALUE, 1}};
        for (int[] w : wrong) {
            Due.is("sum " + w[0] + " " + w[1], NONE, x.sum(w[0], w[1]));
        }
    }

    private static void rank() {
        Document.names("Promise 27: rank `int rank(int s, int n)`:");
        Document.says("RANK likewise (1 the first).");
        IceRun x = known();
        int[][] ranks = {{NONE, 3, 2, 2, NONE}, {NONE, 1, NONE, NONE, NONE}, {NONE, 5, 4, NONE, NONE}, {NONE, 2, 1, 1, 1}, {NONE, 4, 3, 3, 2}};
        for (int s = 0; s < 5; s++) {
            for (int n = 0; n < 5; n++) {
                Due.is("rank of " + s + " behind " + n, ranks[s][n], x.rank(s, n));
            }
        }

        Document.says("NONE: it has none, no such ones.");
        Due.is("struck", NONE, x.rank(1, 2));
        Due.is("did not start", NONE, x.rank(2, 3));
        Due.is("nothing whole", NONE, x.rank(3, 0));
        int[][] wrong = {{3, -1}, {3, 5}, {-1, 1}, {5, 1}, {16, 1}, {3, Integer.MAX_VALUE}, {3, Integer.MIN_VALUE}, {Integer.MAX_VALUE, 1}};
        for (int[] w : wrong) {
            Due.is("rank " + w[0] + " " + w[1], NONE, x.rank(w[0], w[1]));
        }
    }

    private static void ice() {
        Document.names("Promise 28: ice `int ice(int run, int s) throws NoSuchElementException`:");
        Document.says("ICE's part of a SLED's total in a RUN.");
        IceRun x = Fixtures.sleds(200, 200);
        x.race();
        x.begin(0);
        x.start();
        int first = x.order(0);
        Due.is("the run goes on", Due.THROWN, Due.ice(x, 0, first));
        x.start();
        // The second finds ruts of 4, so that its standard is 40 above the first one's.
        Due.is("first", -40, Due.ice(x, 0, first));
        Due.is("second", 40, Due.ice(x, 0, 1 - first));
        x.touch(first, 101);
        Due.is("struck since", -40, Due.ice(x, 0, first));

        Document.says("NoSuchElementException: the RUN is not WHOLE, or the SLED did not start in it.");
        x.begin(0);
        x.start();
        Due.is("of one alone", 0, Due.ice(x, 1, 1 - first));
        Due.is("did not start in it", Due.THROWN, Due.ice(x, 1, first));
        x.begin(0);
        x.start();
        x.begin(0);
        x.shut();
        int[][] wrong = {{3, 0}, {-1, 0}, {4, 0}, {0, -1}, {0, 2}, {0, 16}, {Integer.MAX_VALUE, 0}, {0, Integer.MIN_VALUE}};
        for (int[] w : wrong) {
            Due.is("ice " + w[0] + " " + w[1], Due.THROWN, Due.ice(x, w[0], w[1]));
        }
        x.close();
        Due.is("no race", Due.THROWN, Due.ice(x, 0, 0));
    }

    private static void lost() {
        Document.names("Promise 29: lost `int lost(int run, int s, int k)`:");
        Document.says("LOST in BEND k.");
        IceRun x = Fixtures.tracked(9, 4);
        x.bend(0, 200, 5, 0);
        x.sled(0, 56, 0, 9);
        x.sled(0, 64, 0, 7);
        x.race();
        Fixtures.cleanRun(x, 0);
        // By cell the heavier one is 1 faster; in the sharp bend it loses 10.
        int[][] lost = {{0, 3, 3}, {7, 0, 0}};
        for (int s = 0; s < 2; s++) {
            for (int k = 0; k < 3; k++) {
                Due.is("by " + s + " in " + k, lost[s][k], x.lost(0, s, k));
            }
        }

        Document.says("NONE: the RUN is not WHOLE, the SLED did not start in it, no such BEND, nothing is told of it.");
        Fixtures.breakEyes(x, 3);
        x.touch(0, 101);
        x.begin(0);
        Due.is("goes on", NONE, x.lost(1, 1, 0));
        x.start();
        Due.is("whole", 0, x.lost(1, 1, 0));
        Due.is("did not start", NONE, x.lost(1, 0, 0));
        Due.is("nothing is told", NONE, x.lost(1, 1, 2));
        x.begin(0);
        x.shut();
        int[][] wrong = {{2, 1, 0}, {3, 1, 0}, {-1, 1, 0}, {4, 1, 0}, {0, -1, 0}, {0, 2, 0}, {0, 16, 0}, {0, 0, -1}, {0, 0, 3}, {0, 0, 5},
            {Integer.MIN_VALUE, 0, 0}, {0, Integer.MAX_VALUE, 0}, {0, 0, Integer.MAX_VALUE}};
        for (int[] w : wrong) {
            Due.is("lost " + w[0] + " " + w[1] + " " + w[2], NONE, x.lost(w[0], w[1], w[2]));
        }
        x.close();
        Due.is("no race", NONE, x.lost(0, 0, 0));
    }

    private static void close() {
        Document.names("Promise 30: close `int close()`:");
        Document.says("The RACE is CLOSED: how many have a RANK.");
        for (int struck = 0; struck <= 3; struck++) {
            IceRun x = Fixtures.sleds(100, 100, 100, 200);
            Due.laws(x, "weight 199;");
            x.race();
            Due.runWhole(x, 0);
            for (int s = 0; s < struck; s++) {
                x.touch(s, 101);
            }
            Due.is("with " + struck + " struck", 3 - struck, x.close());
            Due.is("closed", 1, x.count(9));
        }
        IceRun cut = Fixtures.skilled("cut 2;");
        Fixtures.cleanRun(cut, 4);
        Fixtures.cleanRun(cut, 4);
        Due.is("with three cut", 2, cut.close());

        Document.says("NONE: no RACE, a RUN goes on, none is WHOLE.");
        Twins.none("close without a race", IceRun::close, States.OUT_OF_RACE);
        Twins.none("close in a run", IceRun::close, States.IN_RUN);
        Twins.none("close with none whole", IceRun::close, States.RACED, States.EMPTY_RACE, States.SHUT_FIRST);

        Document.says("(There is no RACE then.)");
        Due.is("no race", 0, cut.count(4));
        Due.is("no begin", NONE, cut.begin(0));
        Due.is("no close", NONE, cut.close());
        Due.no("no touch", cut.touch(0, 101));
        Due.is("no order", NONE, cut.order(0));
        Due.is("no time", NONE, cut.time(0, 0, 0));
        Due.yes("a new track", cut.track(8, 3));
    }

    private static void points() {
        Document.names("Promise 31: points `int points(int what, int i)`:");
        Document.says("POINTS of a SLED (what 0), a TEAM (1).");
        IceRun x = Fixtures.tracked(5, 2);
        int[] teams = {2, 0, 2};
        for (int s = 0; s < 3; s++) {
            x.sled(teams[s], 56 + 8 * s, 0, 5);
        }
        for (int race = 1; race <= 3; race++) {
            x.race();
            Fixtures.cleanRun(x, race);
            x.close();
            int[] sleds = {16 * race, 20 * race, 25 * race};
            int[] sums = {20 * race, 0, 41 * race, 0};
            for (int s = 0; s < 3; s++) {
                Due.is("sled " + s, sleds[s], x.points(0, s));
            }
            for (int team = 0; team < 4; team++) {
                Due.is("team " + team, sums[team], x.points(1, team));
            }
        }

        Document.says("NONE: no such ones.");
        int[][] wrong = {{0, 3}, {0, -1}, {0, 16}, {1, 4}, {1, -1}, {2, 0}, {-1, 0}, {0, Integer.MAX_VALUE}, {1, Integer.MIN_VALUE},
            {Integer.MIN_VALUE, 0}};
        for (int[] w : wrong) {
            Due.is("points " + w[0] + " " + w[1], NONE, x.points(w[0], w[1]));
        }
    }

    private static void countsAre(String what, IceRun x, int... due) {
        for (int i = 0; i < due.length; i++) {
            Due.is(what + ": count " + i, due[i], x.count(i));
        }
    }

    private static void count() {
        Document.names("Promise 32: count `int count(int what)`:");
        Document.says("0 CELLS, 1 GATES, 2 SLEDS, 3 bytes of the tape, 4 whether there is a RACE (1, 0), 5 RUNS of it that are WHOLE, "
                + "6 the RUN that goes on (NONE), 7 how many have come down in it (0), 8 EVENTS, 9 RACES closed, 10 SLEDS that ENTERED.");
        IceRun x = new IceRun();
        countsAre("new", x, 0, 0, 0, 0, 0, 0, NONE, 0, 0, 0, 0);
        x.track(9, 4);
        x.sled(0, 100, 0, 5);
        x.sled(0, 100, 0, 5);
        x.sled(0, 120, 0, 5);
        Due.laws(x, "weight 110;");
        x.feed(0, 0, 0, 0, 0);
        countsAre("no race", x, 9, 4, 3, 20, 0, 0, NONE, 0, 0, 0, 0);
        x.race();
        countsAre("a race", x, 9, 4, 3, 20, 1, 0, NONE, 0, 0, 0, 0);
        x.begin(0);
        countsAre("a run", x, 9, 4, 3, 20, 1, 0, 0, 0, 0, 0, 2);
        x.start();
        x.touch(1, 150);
        countsAre("one down, one struck", x, 9, 4, 3, 20, 1, 0, 0, 1, 1, 0, 2);
        x.start();
        countsAre("whole", x, 9, 4, 3, 20, 1, 1, NONE, 0, 2, 0, 2);
        x.begin(0);
        countsAre("the next", x, 9, 4, 3, 20, 1, 1, 1, 0, 2, 0, 2);
        x.shut();
        countsAre("shut", x, 9, 4, 3, 20, 1, 1, NONE, 0, 2, 0, 2);
        x.close();
        countsAre("closed", x, 9, 4, 3, 20, 0, 0, NONE, 0, 0, 1, 0);

        Document.says("NONE for others.");
        int[] others = {-1, 11, Integer.MIN_VALUE, Integer.MAX_VALUE};
        for (int what : others) {
            Due.is("count " + what, NONE, x.count(what));
        }
    }

    private static void notPromised() {
        Document.names("Not promised How the state is held inside the object is free, as are the speed of each call, the text of toString "
                + "and the behaviour of equals and hashCode. Use of one object from several threads at once is not promised to be safe. "
                + "Nothing is promised beyond the answers and state changes described above, and nothing about an object after its "
                + "512th call.");
    }
}
