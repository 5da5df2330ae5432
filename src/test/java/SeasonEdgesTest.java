/** The boundary cases of promises 30, 31, 32: a race that is closed, points of sleds and teams, counts. */
public final class SeasonEdgesTest {
    private static final int LEAST = Integer.MIN_VALUE;
    private static final int MOST = Integer.MAX_VALUE;
    private static final int[] POINTS = {25, 20, 16, 13, 11, 10, 9, 8, 7, 6, 5, 4, 3, 2, 1, 0};

    public static void main(String[] args) {
        closeRefusals();
        closeByHowManyHaveARank();
        noRaceThen();
        closeLeavesTheRest();
        pointsOfEveryRank();
        keepForEvenOnes();
        shareForEvenOnes();
        shareIsCut();
        shareAsItIsThen();
        noPointsWithoutARank();
        pointsAddUp();
        pointsOfTeams();
        pointRefusals();
        countRefusals();
        countsOfEveryState();
        countOfTheRun();
        countOfRaces();
        allCallsOfAnObject();
        Due.done();
    }

    private static void cleanRun(IceRun x) {
        x.begin(0);
        for (int i = 0; i < 16 && x.count(6) != IceRun.NONE; i++) {
            x.start();
            x.water(0, 5);
            x.weather(51, -2, 0);
        }
    }

    /** One run of sleds of these weights, by turns of the four teams; 8 more weight are a lesser time. */
    private static IceRun raced(String laws, int... weights) {
        IceRun x = new IceRun();
        x.track(5, 2);
        for (int s = 0; s < weights.length; s++) {
            x.sled(s % 4, weights[s], 0, 5);
        }
        Due.laws(x, laws);
        x.race();
        cleanRun(x);
        return x;
    }

    private static void points(String what, IceRun x, int... due) {
        for (int s = 0; s < due.length; s++) {
            Due.is(what + ": points(0, " + s + ")", due[s], x.points(0, s));
        }
    }

    private static void closeRefusals() {
        Due.said("30: NONE: no RACE");
        Twins.none("close()", x -> x.close(), States.OUT_OF_RACE);
        Due.said("30: NONE: a RUN goes on");
        Twins.none("close()", x -> x.close(), States.IN_RUN);
        Due.said("30: NONE: none is WHOLE");
        Twins.none("close()", x -> x.close(), States.RACED, States.EMPTY_RACE, States.SHUT_FIRST);
    }

    private static void closeByHowManyHaveARank() {
        Due.said("30: how many have a RANK");
        for (int struck = 0; struck <= 16; struck++) {
            int[] even = new int[16];
            java.util.Arrays.fill(even, 80);
            IceRun x = raced("", even);
            for (int s = 0; s < struck; s++) {
                x.touch(s, 200);
            }
            Due.is("close with " + struck + " struck", 16 - struck, x.close());
            Due.is("races closed", 1, x.count(9));
        }
        Due.is("one of one", 1, raced("", 100).close());
        Due.is("in WHOLE", 3, States.WHOLE.make().close());
        Due.is("in SHUT", 3, States.SHUT.make().close());
        Due.is("in DONE", 3, States.DONE.make().close());
        Due.is("in ALL_STRUCK", 0, States.ALL_STRUCK.make().close());
    }

    private static void noRaceThen() {
        Due.said("30: (There is no RACE then.)");
        States[] states = {States.WHOLE, States.SHUT, States.DONE, States.ALL_STRUCK};
        for (States state : states) {
            IceRun x = state.make();
            x.close();
            int[] due = {0, 0, -1, 0, 0, 1, 0};
            for (int what = 4; what < 11; what++) {
                Due.is("count(" + what + ") in " + state, due[what - 4], x.count(what));
            }
            Due.is("close in " + state, -1, x.close());
            Due.is("begin in " + state, -1, x.begin(0));
            Due.is("start in " + state, -1, x.start());
            Due.is("shut in " + state, -1, x.shut());
            Due.is("order in " + state, -1, x.order(0));
            Due.no("touch in " + state, x.touch(0, 200));
            Due.is("time in " + state, -1, x.time(0, 0, 0));
            Due.is("twice in " + state, -1, x.twice(0, 0, 0));
            Due.is("rank in " + state, -1, x.rank(0, 0));
            Due.is("rank behind 1 in " + state, -1, x.rank(0, 1));
            Due.is("sum in " + state, -1, x.sum(0, 1));
            Due.is("ice in " + state, Due.THROWN, Due.ice(x, 0, 0));
            Due.is("lost in " + state, -1, x.lost(0, 0, 0));
            Due.yes("track in " + state, x.track(5, 2));
        }
    }

    private static void closeLeavesTheRest() {
        Due.said("30: (what is no part of the RACE stays)");
        IceRun x = States.WHOLE.make();
        IceRun y = States.WHOLE.make();
        x.close();
        Due.is("standard", y.standard(), x.standard());
        Due.is("place", y.place(), x.place());
        for (int i = 0; i < 4; i++) {
            Due.is("count(" + i + ")", y.count(i), x.count(i));
        }
        for (int i = 0; i < 6; i++) {
            Due.is("law(" + i + ")", y.law(i), x.law(i));
        }
        for (int c = 0; c < 11; c++) {
            for (int what = 0; what < 5; what++) {
                Due.is("cell(" + c + ", " + what + ")", y.cell(c, what), x.cell(c, what));
            }
        }
    }

    private static int[] falling(int many) {
        int[] weights = new int[many];
        for (int s = 0; s < many; s++) {
            weights[s] = 200 - 8 * s;
        }
        return weights;
    }

    private static void pointsOfEveryRank() {
        Due.said("4.: POINTS by RANK: 25, 20, 16, 13, 11, 10, 9, 8, 7, 6, 5, 4, 3, 2, 1, 0");
        String[] laws = {"", "keep;", "share;"};
        for (String law : laws) {
            IceRun x = raced(law, falling(16));
            points("ahead", x, new int[16]);
            Due.is("close", 16, x.close());
            points("sixteen by '" + law + "'", x, POINTS);
            IceRun one = raced(law, 50);
            one.close();
            points("one by '" + law + "'", one, 25);
        }
    }

    /** So many from one on are even, each of the others has a rank of its own. */
    private static int[] evenFrom(int first, int many) {
        int[] weights = falling(16);
        for (int s = first; s < first + many; s++) {
            weights[s] = weights[first];
        }
        return weights;
    }

    private static void keepForEvenOnes() {
        Due.said("4.: by keep all those of their RANK");
        for (int first = 0; first < 16; first += 3) {
            for (int many = 1; many <= 16 - first; many++) {
                IceRun x = raced("keep;", evenFrom(first, many));
                Due.is("close", 16, x.close());
                for (int s = 0; s < 16; s++) {
                    boolean even = s >= first && s < first + many;
                    Due.is(many + " even ones from " + first + ": " + s, POINTS[even ? first : s], x.points(0, s));
                }
            }
        }
    }

    private static void shareForEvenOnes() {
        Due.said("4.: By share those of one RANK have, each, the sum of the POINTS of their places divided by how many they are (cut)");
        for (int first = 0; first < 16; first++) {
            for (int many = 1; many <= 16 - first; many++) {
                IceRun x = raced("share;", evenFrom(first, many));
                Due.is("close", 16, x.close());
                int sum = 0;
                for (int place = first; place < first + many; place++) {
                    sum += POINTS[place];
                }
                for (int s = 0; s < 16; s++) {
                    boolean even = s >= first && s < first + many;
                    Due.is(many + " even ones from " + first + ": " + s, even ? sum / many : POINTS[s], x.points(0, s));
                }
            }
        }
    }

    private static void shareIsCut() {
        Due.said("4.: divided by how many they are (cut): by hand");
        IceRun x = raced("share;", 80, 80, 72, 72, 72, 64);
        x.close();
        // 45 / 2, (16 + 13 + 11) / 3, 10.
        points("two, three, one", x, 22, 22, 13, 13, 13, 10);
        x = raced("share;", evenFrom(14, 2));
        x.close();
        Due.is("(1 + 0) / 2", 0, x.points(0, 14));
        x = raced("share;", evenFrom(13, 2));
        x.close();
        Due.is("(2 + 1) / 2", 1, x.points(0, 14));
        x = raced("share;", evenFrom(0, 16));
        x.close();
        Due.is("140 / 16", 8, x.points(0, 15));
    }

    private static void shareAsItIsThen() {
        Due.said("4.: (the law as the RACE is CLOSED)");
        IceRun x = raced("share;", 80, 80);
        Due.laws(x, "keep;");
        x.close();
        points("keep then", x, 25, 25);
        x = raced("", 80, 80);
        Due.laws(x, "share;");
        x.close();
        points("share then", x, 22, 22);
    }

    private static void noPointsWithoutARank() {
        Due.said("4.: POINTS by RANK, as known then");
        IceRun x = raced("cut 3;", 96, 88, 80, 72);
        cleanRun(x);
        x.touch(0, 101);
        Due.is("close", 2, x.close());
        points("struck and cut", x, 0, 25, 20, 0);
        x = raced("weight 90;", 96, 88, 80);
        Due.is("close", 2, x.close());
        points("too heavy", x, 0, 25, 20);
        x = raced("share;", 80, 80, 80);
        x.touch(1, 101);
        x.close();
        points("of three even ones one is struck", x, 22, 0, 22);
    }

    private static void pointsAddUp() {
        Due.said("18: POINTS stay; 31: POINTS of a SLED (of all RACES closed)");
        IceRun x = raced("", 80, 72);
        x.close();
        for (int races = 2; races <= 10; races++) {
            x.race();
            cleanRun(x);
            points("ahead of race " + races, x, 25 * (races - 1), 20 * (races - 1));
            x.close();
            points("behind race " + races, x, 25 * races, 20 * races);
            Due.is("team 0", 25 * races, x.points(1, 0));
            Due.is("races closed", races, x.count(9));
        }
        x.race();
        cleanRun(x);
        x.race();
        points("a race that was not closed", x, 250, 200);
        Due.is("races closed", 10, x.count(9));
    }

    private static void pointsOfTeams() {
        Due.said("4.: A TEAM's POINTS are its SLEDS'");
        IceRun x = new IceRun();
        for (int team = 0; team < 4; team++) {
            Due.is("team " + team + " without sleds", 0, x.points(1, team));
        }
        x = raced("", falling(16));
        for (int team = 0; team < 4; team++) {
            Due.is("team " + team + " ahead", 0, x.points(1, team));
        }
        x.close();
        int[] due = {25 + 11 + 7 + 3, 20 + 10 + 6 + 2, 16 + 9 + 5 + 1, 13 + 8 + 4};
        for (int team = 0; team < 4; team++) {
            Due.is("team " + team, due[team], x.points(1, team));
        }
        IceRun three = new IceRun();
        three.track(5, 2);
        three.sled(3, 100, 0, 5);
        three.race();
        cleanRun(three);
        three.close();
        Due.is("team 3", 25, three.points(1, 3));
        Due.is("team 0", 0, three.points(1, 0));
    }

    private static void pointRefusals() {
        Due.said("31: NONE: no such ones");
        int[][] wrong = {{-1, 0}, {2, 0}, {3, 0}, {LEAST, 0}, {MOST, 0}, {0, -1}, {0, 5}, {0, 15}, {0, 16}, {0, LEAST}, {0, MOST}, {1, -1}, {1, 4},
            {1, LEAST}, {1, MOST}, {2, -1}};
        for (int[] w : wrong) {
            Twins.none("points(" + w[0] + ", " + w[1] + ")", x -> x.points(w[0], w[1]), States.TRACKED, States.WHOLE, States.CLOSED);
        }
        Twins.none("points(0, 0)", x -> x.points(0, 0), States.FRESH);
        Twins.none("points(0, 16)", x -> x.points(0, 16), States.FULL);
        Twins.refused("points(0, 15)", 0, x -> x.points(0, 15), States.FULL);
        Twins.refused("points(0, 4)", 0, x -> x.points(0, 4), States.TRACKED);
        Twins.changesNothing("points(0, 0)", x -> x.points(0, 0), States.ALL);
        Twins.changesNothing("points(1, 0)", x -> x.points(1, 0), States.ALL);
        IceRun x = new IceRun();
        for (int s = 0; s < 16; s++) {
            Due.is("not there yet", -1, x.points(0, s));
            x.sled(0, 100, 0, 5);
            Due.is("there", 0, x.points(0, s));
        }
    }

    private static void countRefusals() {
        Due.said("32: NONE for others");
        int[] others = {-1, 11, 12, LEAST, MOST};
        for (int what : others) {
            Twins.none("count(" + what + ")", x -> x.count(what), States.FRESH, States.TRACKED, States.RUNNING, States.WHOLE, States.CLOSED);
        }
        for (int what = 0; what < 11; what++) {
            int w = what;
            Twins.changesNothing("count(" + w + ")", x -> x.count(w), States.RUNNING, States.SHUT);
        }
    }

    private static void counts(States state, int... due) {
        IceRun x = state.make();
        for (int what = 0; what < due.length; what++) {
            Due.is("count(" + what + ") in " + state, due[what], x.count(what));
        }
    }

    private static void countsOfEveryState() {
        Due.said("32: 0 CELLS, 1 GATES, 2 SLEDS, 3 bytes, 4 a RACE, 5 WHOLE, 6 the RUN, 7 down, 8 EVENTS, 9 closed, 10 ENTERED");
        counts(States.FRESH, 0, 0, 0, 0, 0, 0, -1, 0, 0, 0, 0);
        counts(States.TRACKED, 11, 5, 5, 18, 0, 0, -1, 0, 0, 0, 0);
        counts(States.RACED, 11, 5, 5, 18, 1, 0, -1, 0, 0, 0, 0);
        counts(States.EMPTY_RACE, 6, 3, 1, 0, 1, 0, -1, 0, 0, 0, 0);
        counts(States.BEGUN, 11, 5, 5, 18, 1, 0, 0, 0, 0, 0, 4);
        counts(States.RUNNING, 11, 5, 5, 18, 1, 0, 0, 2, 1, 0, 4);
        counts(States.WHOLE, 11, 5, 5, 18, 1, 1, -1, 0, 2, 0, 4);
        counts(States.SECOND, 11, 5, 5, 18, 1, 1, 1, 1, 2, 0, 4);
        counts(States.SHUT, 11, 5, 5, 18, 1, 1, -1, 0, 2, 0, 4);
        counts(States.SHUT_FIRST, 11, 5, 5, 18, 1, 0, -1, 0, 1, 0, 4);
        counts(States.ALL_STRUCK, 11, 5, 5, 18, 1, 1, -1, 0, 5, 0, 4);
        counts(States.DONE, 11, 5, 5, 18, 1, 4, -1, 0, 5, 0, 4);
        counts(States.CLOSED, 11, 5, 5, 18, 0, 0, -1, 0, 0, 1, 0);
        counts(States.FULL, 5, 3, 16, 300, 0, 0, -1, 0, 0, 0, 0);
    }

    private static void countOfTheRun() {
        Due.said("32: 5 RUNS that are WHOLE, 6 the RUN that goes on (NONE), 7 how many have come down in it (0)");
        IceRun x = new IceRun();
        x.track(5, 2);
        x.sled(0, 100, 0, 5);
        x.sled(0, 100, 0, 5);
        x.race();
        for (int run = 0; run < 4; run++) {
            Due.is("none goes on", -1, x.count(6));
            Due.is("none is down", 0, x.count(7));
            x.begin(0);
            Due.is("the run", run, x.count(6));
            Due.is("none is down in it", 0, x.count(7));
            x.start();
            Due.is("one is down in it", 1, x.count(7));
            Due.is("whole ahead", run, x.count(5));
            x.start();
            Due.is("whole behind", run + 1, x.count(5));
            Due.is("events behind", run + 1, x.count(8));
        }
        Due.is("none goes on then", -1, x.count(6));
    }

    private static void countOfRaces() {
        Due.said("32: 9 RACES closed");
        IceRun x = raced("", 100);
        Due.is("none", 0, x.count(9));
        x.close();
        Due.is("one", 1, x.count(9));
        x.close();
        Due.is("a refused one", 1, x.count(9));
        x.race();
        x.race();
        Due.is("races that begin", 1, x.count(9));
        x.track(5, 2);
        Due.is("a refused track", 1, x.count(9));
        cleanRun(x);
        x.close();
        Due.is("two", 2, x.count(9));
        x.track(9, 2);
        Due.is("a track anew", 2, x.count(9));
    }

    private static void allCallsOfAnObject() {
        Due.said("What it is: An object is used for at most 512 calls after it has been made");
        IceRun x = new IceRun();
        x.track(5, 2);
        x.sled(2, 64, 0, 5);
        x.sled(2, 56, 0, 5);
        // 3 calls, then 101 races of 5 calls each: 508.
        for (int i = 0; i < 101; i++) {
            x.race();
            x.begin(i);
            x.start();
            x.start();
            x.close();
        }
        Due.is("call 509: races closed", 101, x.count(9));
        Due.is("call 510: the deepest rut", 100, x.cell(4, 4));
        Due.is("call 511: the hardness left", 500 - 2 * 202, x.cell(0, 3));
        Due.is("call 512: points of the team", 101 * 45, x.points(1, 2));
    }
}
