import java.util.ArrayList;
import java.util.Collections;
import java.util.List;

/** The boundary cases of promises 18, 19, 20, 21, 22, 23: races, runs, orders, starts, what is shut, who is struck. */
public final class RaceEdgesTest {
    private static final int LEAST = Integer.MIN_VALUE;
    private static final int MOST = Integer.MAX_VALUE;
    /** The five sleds of ranked(), the first first. */
    private static final List<Integer> BY_RANK = List.of(1, 3, 0, 4, 2);

    public static void main(String[] args) {
        raceRefusals();
        raceForgetsTheFormer();
        nextRaceKeepsItsOwn();
        raceLeavesTheRest();
        beginWithoutRace();
        beginWhileOneGoesOn();
        beginByTheLawOfRuns();
        beginBehindRunThree();
        beginByALaterLaw();
        beginWithNobody();
        enterUpToTheWeight();
        enterAsRunNoughtBegins();
        seedsThatWrap();
        seedCountsForRunNought();
        cutAndReverse();
        cutAndReverseOfSixteen();
        evenOnesByNumber();
        lawsAsTheyAreThen();
        orderBounds();
        orderStays();
        orderRefusals();
        startToTheLast();
        startRefusals();
        shutByHowManyAreDown();
        shutCountsForNothing();
        shutRefusals();
        touchBounds();
        touchByTheLaw();
        touchRefusals();
        touchWhoEntered();
        struckOnce();
        Due.done();
    }

    private static IceRun sleds(int many) {
        IceRun x = new IceRun();
        x.track(5, 2);
        for (int s = 0; s < many; s++) {
            x.sled(0, 100, 0, 5);
        }
        return x;
    }

    private static void raceRefusals() {
        Due.said("18: False: no TRACK");
        Twins.no("race()", x -> Twins.bit(x.race()), States.FRESH);
        IceRun x = new IceRun();
        x.sled(0, 100, 0, 5);
        Due.no("race() with a sled", x.race());
        Due.is("no race", 0, x.count(4));
        Due.said("18: False: a RUN goes on");
        Twins.no("race()", y -> Twins.bit(y.race()), States.IN_RUN);
    }

    private static void raceForgetsTheFormer() {
        Due.said("18: A RACE begins, with RUN 0 next; what was kept of the former one is gone");
        for (States state : States.OUT_OF_RUN) {
            if (state == States.FRESH) {
                continue;
            }
            IceRun x = state.make();
            int closed = x.count(9);
            Due.yes("race() in " + state, x.race());
            int[] due = {1, 0, -1, 0, 0, closed, 0};
            for (int what = 4; what < 11; what++) {
                Due.is("count(" + what + ") in " + state, due[what - 4], x.count(what));
            }
            Due.is("order(0) in " + state, -1, x.order(0));
            for (int s = 0; s < 5; s++) {
                gone(state, x, s);
            }
            if (state != States.EMPTY_RACE) {
                Due.is("begin in " + state, 0, x.begin(3));
                Due.yes("who was struck may be struck again, in " + state, x.touch(1, 101));
            }
        }
    }

    private static void gone(States state, IceRun x, int s) {
        for (int run = 0; run < 4; run++) {
            Due.is("time in " + state, -1, x.time(run, s, 0));
            Due.is("twice in " + state, -1, x.twice(run, s, 0));
            Due.is("lost in " + state, -1, x.lost(run, s, 1));
            Due.is("ice in " + state, Due.THROWN, Due.ice(x, run, s));
        }
        for (int n = 0; n < 3; n++) {
            Due.is("rank in " + state, -1, x.rank(s, n));
            Due.is("sum in " + state, -1, x.sum(s, n));
        }
        Due.no("touch in " + state, x.touch(s, 200));
    }

    private static void nextRaceKeepsItsOwn() {
        Due.said("18: what was kept of the former one is gone (so that the next one's runs have their own alone)");
        for (int close = 0; close < 2; close++) {
            IceRun x = sleds(2);
            x.sled(0, 150, 0, 5);
            x.race();
            for (int run = 0; run < 4; run++) {
                Due.runWhole(x, run);
            }
            if (close == 1) {
                x.close();
            }
            Due.laws(x, "weight 149; cut 1;");
            x.race();
            x.begin(0);
            notIn(x, 0, 0, 1, 2);
            x.start();
            notIn(x, 0, x.order(1), 2);
            x.start();
            notIn(x, 0, 2);
            x.begin(0);
            notIn(x, 1, 0, 1, 2);
            int first = x.order(0);
            x.start();
            notIn(x, 1, 1 - first, 2);
            Due.is("rank of the one that was cut", -1, x.rank(1 - first, 2));
            Due.is("rank of the one that did not enter", -1, x.rank(2, 1));
            Due.is("sum of the first", x.time(0, first, 1) + x.time(1, first, 1), x.sum(first, 2));
            Due.is("ice of one alone", 0, Due.ice(x, 1, first));
            Due.is("lost by one alone", 0, x.lost(1, first, 0));
            notIn(x, 2, 0, 1, 2);
            notIn(x, 3, 0, 1, 2);
        }
    }

    private static void notIn(IceRun x, int run, int... sleds) {
        for (int s : sleds) {
            Due.is("time(" + run + ", " + s + ", 0)", -1, x.time(run, s, 0));
            Due.is("twice(" + run + ", " + s + ", 0)", -1, x.twice(run, s, 0));
            Due.is("lost(" + run + ", " + s + ", 0)", -1, x.lost(run, s, 0));
            Due.is("ice(" + run + ", " + s + ")", Due.THROWN, Due.ice(x, run, s));
        }
    }

    private static void raceLeavesTheRest() {
        Due.said("18: POINTS stay");
        IceRun x = States.CLOSED.make();
        int[] points = new int[5];
        int all = 0;
        for (int s = 0; s < 5; s++) {
            points[s] = x.points(0, s);
            all += points[s];
        }
        Due.yes("some have points", all > 0);
        int standard = x.standard();
        int rut = x.cell(3, 4);
        x.race();
        x.begin(0);
        x.shut();
        x.race();
        for (int s = 0; s < 5; s++) {
            Due.is("points of " + s, points[s], x.points(0, s));
        }
        Due.is("races closed", 1, x.count(9));
        Due.is("the ice stays", standard, x.standard());
        Due.is("a rut stays", rut, x.cell(3, 4));
        Due.is("the tape stays", 18, x.count(3));
        Due.is("laws stay", 60, x.law(1));
    }

    private static void beginWithoutRace() {
        Due.said("19: NONE: no RACE");
        int[] seeds = {0, 1, LEAST, MOST};
        for (int seed : seeds) {
            Twins.none("begin(" + seed + ")", x -> x.begin(seed), States.OUT_OF_RACE);
        }
    }

    private static void beginWhileOneGoesOn() {
        Due.said("19: NONE: one goes on");
        Twins.none("begin(0)", x -> x.begin(0), States.IN_RUN);
        Twins.none("begin(-1)", x -> x.begin(-1), States.IN_RUN);
    }

    private static void beginByTheLawOfRuns() {
        Due.said("3.: Behind RUN number RUNS - 1 (by the law) .. none begins till the next RACE");
        for (int runs = 1; runs <= 4; runs++) {
            IceRun x = sleds(2);
            Due.laws(x, "runs " + runs + ";");
            for (int race = 0; race < 2; race++) {
                x.race();
                for (int run = 0; run < runs; run++) {
                    Due.is("begin of " + runs, run, x.begin(0));
                    x.start();
                    x.start();
                }
                Due.is("begin behind " + runs, -1, x.begin(0));
                Due.is("again", -1, x.begin(0));
                Due.is("none goes on", -1, x.count(6));
                Due.is("whole ones", runs, x.count(5));
            }
            Due.is("close behind " + runs, 2, x.close());
        }
        for (int runs = 2; runs <= 4; runs++) {
            IceRun x = sleds(2);
            Due.laws(x, "runs " + runs + ";");
            x.race();
            Due.runWhole(x, 0);
            for (int run = 1; run < runs; run++) {
                Due.is("begin of one to be shut", run, x.begin(0));
                x.shut();
            }
            Due.is("begin behind shut ones of " + runs, -1, x.begin(0));
        }
    }

    private static void beginBehindRunThree() {
        Due.said("3.: Behind RUN number .. 3, none begins till the next RACE; 19: none more begins");
        Twins.none("begin(0)", x -> x.begin(0), States.DONE);
        IceRun x = sleds(1);
        x.race();
        for (int run = 0; run < 4; run++) {
            Due.is("begin", run, x.begin(0));
            x.start();
        }
        Due.is("no run 4", -1, x.begin(0));
        Due.laws(x, "runs 4;");
        Due.is("nor by a law", -1, x.begin(0));
        x.race();
        Due.is("in the next race", 0, x.begin(0));
    }

    private static void beginByALaterLaw() {
        Due.said("3.: (by the law, as it is when a RUN would begin)");
        IceRun x = sleds(1);
        Due.laws(x, "runs 1;");
        x.race();
        Due.runWhole(x, 0);
        Due.is("behind run 0 of 1", -1, x.begin(0));
        Due.laws(x, "runs 2;");
        Due.is("run 1 of 2", 1, x.begin(0));
        x.start();
        Due.is("behind run 1 of 2", -1, x.begin(0));
        Due.laws(x, "runs 1;");
        Due.is("behind run 1 of 1", -1, x.begin(0));
        Due.laws(x, "");
        Due.is("run 2 of 4", 2, x.begin(0));
    }

    private static void beginWithNobody() {
        Due.said("19: NONE: its ORDER would have nobody");
        Twins.none("begin(0)", x -> x.begin(0), States.EMPTY_RACE, States.SHUT_FIRST, States.ALL_STRUCK);
        IceRun x = sleds(0);
        x.race();
        Due.is("no sleds", -1, x.begin(0));
        Due.is("there is a race", 1, x.count(4));
        x.sled(0, 100, 0, 5);
        Due.is("one sled", 0, x.begin(0));
        Due.is("one entered", 1, x.count(10));

        IceRun heavy = States.EMPTY_RACE.make();
        Due.is("too heavy", -1, heavy.begin(0));
        Due.is("nobody entered", 0, heavy.count(10));
        Due.no("nobody is touched", heavy.touch(0, 200));
        Due.laws(heavy, "weight 150;");
        Due.is("run 0 still", 0, heavy.begin(0));

        IceRun one = sleds(2);
        one.race();
        Due.runWhole(one, 0);
        one.touch(0, 200);
        Due.is("one is left", 1, one.begin(0));
        Due.is("it alone", -1, one.order(1));
        one.start();
        one.touch(1, 200);
        Due.is("none is left", -1, one.begin(0));
    }

    private static void enterUpToTheWeight() {
        Due.said("3.: SLEDS that ENTER: all of WEIGHT up to the law's");
        int[] laws = {50, 51, 99, 100, 199, 200};
        for (int law : laws) {
            IceRun x = new IceRun();
            x.track(5, 2);
            int due = 0;
            for (int weight = law - 1; weight <= law + 1; weight++) {
                boolean there = x.sled(0, weight, 0, 5) != IceRun.NONE;
                due += there && weight <= law ? 1 : 0;
            }
            Due.laws(x, "weight " + law + ";");
            x.race();
            Due.is("begin by " + law, 0, x.begin(0));
            Due.is("how many enter by " + law, due, x.count(10));
            Due.is("the order ends", -1, x.order(due));
            boolean heavier = x.count(2) > due;
            Due.no("the heavier one is not touched", heavier && x.touch(due, 200));
            Due.yes("the heaviest that entered is", x.touch(due - 1, 200));
        }
    }

    private static void enterAsRunNoughtBegins() {
        Due.said("3.: SLEDS that ENTER: .. as RUN 0 begins");
        IceRun x = new IceRun();
        x.track(5, 2);
        x.sled(0, 60, 0, 5);
        Due.laws(x, "weight 59;");
        x.race();
        Due.is("nobody as the race begins", 0, x.count(10));
        x.sled(0, 70, 0, 5);
        Due.laws(x, "weight 70;");
        x.begin(0);
        Due.is("both as run 0 begins", 2, x.count(10));
        x.sled(0, 50, 0, 5);
        x.start();
        x.start();
        Due.laws(x, "weight 50;");
        Due.is("both later", 1, x.begin(0));
        Due.is("count(10)", 2, x.count(10));
        Due.is("two in the order", -1, x.order(2));
        Due.yes("of them the heavy one", x.order(0) == 1 || x.order(1) == 1);
    }

    private static void seedsThatWrap() {
        Due.said("3.: x = x * 1103515245 + 12345 (ints, they wrap), (x >>> 16) % how many are left");
        int[] seeds = {0, 1, -1, LEAST, MOST, 7, 1103515245, -1103515245, 65536};
        int[][] due = {
            {0, 12, 1, 15, 8, 11, 7, 5, 4, 9, 14, 6, 13, 10, 3, 2},
            {6, 7, 5, 15, 3, 9, 13, 2, 10, 12, 1, 8, 0, 14, 11, 4},
            {9, 15, 6, 13, 1, 14, 11, 5, 0, 3, 12, 7, 10, 2, 8, 4},
            {0, 4, 8, 6, 3, 14, 7, 10, 5, 12, 11, 1, 15, 9, 13, 2},
            {9, 7, 0, 4, 13, 1, 2, 11, 3, 8, 6, 15, 14, 10, 12, 5},
            {12, 11, 4, 2, 15, 13, 6, 3, 1, 5, 14, 7, 9, 8, 10, 0},
            {2, 9, 5, 13, 3, 0, 7, 14, 15, 11, 1, 4, 8, 10, 12, 6},
            {13, 12, 9, 0, 3, 8, 11, 15, 10, 5, 7, 2, 4, 6, 1, 14},
            {13, 15, 7, 14, 8, 3, 11, 4, 12, 9, 6, 10, 0, 5, 1, 2}};
        int[][] ofThree = {{0, 1, 2}, {2, 0, 1}, {1, 2, 0}, {2, 0, 1}, {2, 1, 0}, {0, 1, 2}, {2, 1, 0}, {1, 0, 2}, {1, 2, 0}};
        for (int i = 0; i < seeds.length; i++) {
            drawn(seeds[i], due[i]);
            drawn(seeds[i], ofThree[i]);
            drawn(seeds[i], 0);
        }
        Due.said("3.: from the SLEDS that ENTER, in order");
        IceRun x = new IceRun();
        x.track(5, 2);
        int[] weights = {60, 90, 70, 91, 80};
        for (int weight : weights) {
            x.sled(0, weight, 0, 5);
        }
        Due.laws(x, "weight 80;");
        x.race();
        x.begin(MOST);
        int[] those = {4, 2, 0};
        for (int i = 0; i < 3; i++) {
            Due.is("of those that enter " + i, those[i], x.order(i));
        }
    }

    private static void drawn(int seed, int... due) {
        IceRun x = sleds(due.length);
        x.race();
        x.begin(seed);
        for (int i = 0; i < due.length; i++) {
            Due.is("seed " + seed + " of " + due.length + ": order(" + i + ")", due[i], x.order(i));
        }
        Due.is("seed " + seed + " of " + due.length + ": the end", -1, x.order(due.length));
    }

    private static void seedCountsForRunNought() {
        Due.said("19: (The SEED counts for RUN 0.)");
        int[] seeds = {0, 1, -1, LEAST, MOST, 12345};
        for (int seed : seeds) {
            IceRun x = ranked();
            x.begin(seed);
            order("by seed " + seed, x, BY_RANK);
        }
    }

    /** Five sleds whose skills in a sharp bend give them the ranks 3, 1, 5, 2, 4; the ice is new for each. */
    private static IceRun ranked() {
        IceRun x = new IceRun();
        x.track(5, 2);
        x.bend(0, 200, 9, 0);
        int[] skills = {5, 9, 1, 7, 3};
        for (int skill : skills) {
            x.sled(0, 50, 0, skill);
        }
        x.race();
        x.begin(4);
        for (int i = 0; i < 5; i++) {
            x.start();
            x.water(0, 5);
            x.weather(51, -2, 0);
        }
        return x;
    }

    private static void order(String what, IceRun x, List<Integer> due) {
        for (int i = 0; i < due.size(); i++) {
            Due.is(what + ": order(" + i + ")", due.get(i), x.order(i));
        }
        Due.is(what + ": the end", -1, x.order(due.size()));
    }

    private static List<Integer> turned(List<Integer> byRank, int cut, int reverse) {
        List<Integer> left = new ArrayList<>(byRank.subList(0, Math.min(cut, byRank.size())));
        Collections.reverse(left.subList(0, Math.min(reverse, left.size())));
        return left;
    }

    private static void cutAndReverse() {
        Due.said("3.: the first CUT of them; of these the first REVERSE ones the other way round, the others as they are");
        for (int cut = 1; cut <= 16; cut++) {
            for (int reverse = 0; reverse <= 16; reverse++) {
                IceRun x = ranked();
                Due.laws(x, "cut " + cut + "; reverse " + reverse + ";");
                Due.is("begin", 1, x.begin(0));
                order("cut " + cut + " reverse " + reverse, x, turned(BY_RANK, cut, reverse));
            }
        }
        IceRun x = ranked();
        Due.laws(x, "cut 3; reverse 2;");
        x.begin(0);
        order("by hand", x, List.of(3, 1, 0));
    }

    private static void cutAndReverseOfSixteen() {
        Due.said("3.: the first CUT of them (16 are there)");
        int[][] laws = {{1, 0}, {1, 16}, {15, 0}, {15, 15}, {15, 16}, {16, 0}, {16, 1}, {16, 2}, {16, 15}, {16, 16}};
        for (int[] law : laws) {
            IceRun x = new IceRun();
            x.track(5, 2);
            List<Integer> byRank = new ArrayList<>();
            for (int s = 0; s < 16; s++) {
                x.sled(0, 72 + 8 * s, 0, 5);
                byRank.add(0, s);
            }
            x.race();
            x.begin(9);
            for (int i = 0; i < 16; i++) {
                x.start();
                x.water(0, 5);
                x.weather(51, -2, 0);
            }
            Due.laws(x, "cut " + law[0] + "; reverse " + law[1] + ";");
            x.begin(0);
            order("cut " + law[0] + " reverse " + law[1] + " of 16", x, turned(byRank, law[0], law[1]));
        }
    }

    private static void evenOnesByNumber() {
        Due.said("3.: (In lists of RANKS those of one RANK stand by their numbers.)");
        int[] weights = {64, 72, 64, 80, 72, 64};
        IceRun x = new IceRun();
        x.track(5, 2);
        for (int weight : weights) {
            x.sled(0, weight, 0, 5);
        }
        Due.laws(x, "cut 5;");
        x.race();
        x.begin(-1);
        for (int i = 0; i < 6; i++) {
            x.start();
            x.water(0, 5);
            x.weather(51, -2, 0);
        }
        x.begin(0);
        order("even ones", x, List.of(3, 1, 4, 0, 2));
    }

    private static void lawsAsTheyAreThen() {
        Due.said("3.: by RANK, as known then .. (by the law)");
        IceRun x = ranked();
        x.begin(0);
        x.shut();
        Due.laws(x, "cut 2;");
        x.begin(0);
        order("the law of now", x, List.of(1, 3));
        x.shut();
        Due.laws(x, "reverse 3;");
        x.touch(3, 150);
        x.begin(0);
        order("known now", x, List.of(4, 0, 1, 2));
    }

    private static void orderBounds() {
        Due.said("20: The i-th of the ORDER; NONE: there are not so many");
        for (int many = 1; many <= 16; many++) {
            IceRun x = sleds(many);
            x.race();
            x.begin(many);
            int seen = 0;
            for (int i = 0; i < many; i++) {
                seen |= 1 << x.order(i);
            }
            Due.is("each once of " + many, (1 << many) - 1, seen);
            Due.is("order(" + many + ")", -1, x.order(many));
            Due.is("order(-1)", -1, x.order(-1));
        }
    }

    private static void orderStays() {
        Due.said("20: of the RUN that goes on, or went on latest in this RACE");
        IceRun x = ranked();
        List<Integer> first = new ArrayList<>();
        for (int i = 0; i < 5; i++) {
            first.add(x.order(i));
        }
        Due.laws(x, "cut 2;");
        order("behind run 0", x, first);
        x.begin(0);
        order("run 1", x, List.of(1, 3));
        x.start();
        order("run 1 goes on", x, List.of(1, 3));
        x.shut();
        order("run 1 is shut", x, List.of(1, 3));
        Due.laws(x, "runs 1;");
        Due.is("none begins", -1, x.begin(0));
        order("run 1 still", x, List.of(1, 3));
        x.touch(1, 150);
        order("one is struck", x, List.of(1, 3));
        Due.laws(x, "cut 1;");
        x.begin(0);
        order("run 2", x, List.of(3));
        x.start();
        order("run 2 is whole", x, List.of(3));
        x.close();
        Due.is("closed", -1, x.order(0));
        x.race();
        Due.is("another race", -1, x.order(0));
    }

    private static void orderRefusals() {
        Due.said("20: NONE: there are not so many");
        int[] others = {-1, 4, 5, 15, 16, LEAST, MOST};
        for (int i : others) {
            Twins.none("order(" + i + ")", x -> x.order(i), States.BEGUN, States.RUNNING, States.WHOLE);
        }
        Due.said("20: NONE: none was");
        Twins.none("order(0)", x -> x.order(0), States.FRESH, States.TRACKED, States.RACED, States.EMPTY_RACE, States.CLOSED, States.FULL);
        Twins.changesNothing("order(0)", x -> x.order(0), States.IN_RACE);
    }

    private static void startToTheLast() {
        Due.said("21: The next SLED of the ORDER comes down; 3.: When all have come down the RUN is WHOLE");
        int[] sizes = {1, 2, 16};
        for (int many : sizes) {
            IceRun x = sleds(many);
            x.race();
            x.begin(8);
            for (int i = 0; i < many; i++) {
                Due.is("goes on with " + i, 0, x.count(6));
                Due.is("down " + i, i, x.count(7));
                Due.is("whole with " + i, 0, x.count(5));
                Due.is("events with " + i, 0, x.count(8));
                Due.is("not down", -1, x.time(0, x.order(i), 0));
                int total = x.start();
                Due.is("its total", x.time(0, x.order(i), 1), total);
            }
            Due.is("none goes on of " + many, -1, x.count(6));
            Due.is("down of none", 0, x.count(7));
            Due.is("whole of " + many, 1, x.count(5));
            Due.is("events of " + many, 1, x.count(8));
            Due.is("one more of " + many, -1, x.start());
        }
    }

    private static void startRefusals() {
        Due.said("21: NONE: no RUN goes on");
        Twins.none("start()", x -> x.start(), States.OUT_OF_RUN);
    }

    private static void shutByHowManyAreDown() {
        Due.said("22: The RUN is SHUT: how many had come down in it");
        for (int down = 0; down < 16; down++) {
            IceRun x = sleds(16);
            x.race();
            Due.runWhole(x, 0);
            x.begin(0);
            for (int i = 0; i < down; i++) {
                x.start();
            }
            Due.is("shut with " + down, down, x.shut());
            Due.is("none goes on", -1, x.count(6));
            Due.is("none is down", 0, x.count(7));
            Due.is("again", -1, x.shut());
            Due.is("the next one", 2, x.begin(0));
            Due.is("none is down in it", 0, x.count(7));
        }
        IceRun x = sleds(16);
        x.race();
        x.begin(0);
        for (int i = 0; i < 16; i++) {
            x.start();
        }
        Due.is("all sixteen are down: it is whole", -1, x.shut());
        Due.is("it stays whole", 1, x.count(5));
    }

    private static void shutCountsForNothing() {
        Due.said("3.: A RUN that is SHUT counts for nothing, and is not begun anew: the next one has the next number");
        IceRun x = sleds(2);
        x.race();
        Due.runWhole(x, 0);
        int[] sums = {x.sum(0, 1), x.sum(1, 1)};
        for (int run = 1; run < 4; run++) {
            Due.is("run " + run, run, x.begin(0));
            x.start();
            x.shut();
            Due.is("whole", 1, x.count(5));
            Due.is("events", 1, x.count(8));
            Due.is("sum of 0", sums[0], x.sum(0, 1));
            Due.is("sum of 1", sums[1], x.sum(1, 1));
            Due.is("no time", -1, x.time(run, x.order(0), 0));
            Due.is("no ice", Due.THROWN, Due.ice(x, run, x.order(0)));
            Due.is("nothing lost", -1, x.lost(run, x.order(0), 0));
        }
        Due.is("none more", -1, x.begin(0));
        Due.is("both have a rank", 2, x.close());
        Due.said("3.: (its sleds have worn the ice)");
        Due.is("ruts of 2 and 3 starts", 2 * (2 + 3), x.cell(0, 4));
    }

    private static void shutRefusals() {
        Due.said("22: NONE: none goes on");
        Twins.none("shut()", x -> x.shut(), States.OUT_OF_RUN);
    }

    private static void touchBounds() {
        Due.said("23: (WARMTH 0 to 200; false for others)");
        int[] wrong = {-1, 201, 202, 300, LEAST, MOST};
        for (int warmth : wrong) {
            Twins.no("touch(0, " + warmth + ")", x -> Twins.bit(x.touch(0, warmth)), States.BEGUN, States.WHOLE);
        }
        IceRun x = sleds(3);
        x.race();
        x.begin(0);
        Due.no("touch(0, 201)", x.touch(0, 201));
        Due.yes("touch(0, 200)", x.touch(0, 200));
        x.start();
        x.start();
        x.start();
        Due.laws(x, "warm 0;");
        Due.no("touch(1, -1)", x.touch(1, -1));
        Due.no("touch(1, 0)", x.touch(1, 0));
        Due.yes("touch(1, 1)", x.touch(1, 1));
    }

    private static void touchByTheLaw() {
        Due.said("3.: TOUCHED with a WARMTH of its RUNNERS above the law's (as it is then)");
        int[] laws = {0, 1, 59, 99, 100};
        for (int law : laws) {
            IceRun x = sleds(2);
            Due.laws(x, "warm " + law + ";");
            x.race();
            x.begin(0);
            Due.no("as warm as " + law, x.touch(1, law));
            Due.is("no event", 0, x.count(8));
            Due.yes("warmer than " + law, x.touch(1, law + 1));
            Due.is("an event", 1, x.count(8));
        }
        IceRun x = sleds(2);
        Due.laws(x, "warm 50;");
        x.race();
        Due.runWhole(x, 0);
        Due.laws(x, "warm 80;");
        Due.no("by the law that was", x.touch(0, 80));
        Due.yes("by the law that is", x.touch(0, 81));
        Due.laws(x, "warm 10;");
        Due.yes("by the next law", x.touch(1, 11));
        Due.said("23: a refused call changes nothing");
        Twins.no("touch(0, 60)", y -> Twins.bit(y.touch(0, 60)), States.ALL);
        Twins.no("touch(0, 0)", y -> Twins.bit(y.touch(0, 0)), States.ALL);
    }

    private static void touchRefusals() {
        Due.said("23: false for .. no such SLED");
        int[] others = {-1, 5, 15, 16, LEAST, MOST};
        for (int s : others) {
            Twins.no("touch(" + s + ", 200)", x -> Twins.bit(x.touch(s, 200)), States.FRESH, States.RACED, States.BEGUN, States.WHOLE);
        }
        Due.said("23: false for .. no RACE in which it ENTERED");
        Twins.no("touch(0, 200)", x -> Twins.bit(x.touch(0, 200)), States.FRESH, States.TRACKED, States.RACED, States.EMPTY_RACE, States.CLOSED,
                States.FULL);
        Twins.no("touch(4, 200) of the heavy one", x -> Twins.bit(x.touch(4, 200)), States.ALL);
    }

    private static void touchWhoEntered() {
        Due.said("23: whether it is STRUCK by that");
        States[] states = {States.BEGUN, States.RUNNING, States.WHOLE, States.SECOND, States.SHUT, States.SHUT_FIRST, States.DONE};
        for (States state : states) {
            for (int s = 0; s < 4; s++) {
                IceRun x = state.make();
                int events = x.count(8);
                boolean struckBefore = s == 1 && state != States.BEGUN;
                Due.is("touch(" + s + ", 61) in " + state, struckBefore ? 0 : 1, Twins.bit(x.touch(s, 61)));
                Due.is("events in " + state, events + (struckBefore ? 0 : 1), x.count(8));
                Due.is("its rank in " + state, -1, x.rank(s, x.count(8)));
            }
        }
    }

    private static void struckOnce() {
        Due.said("3.: is STRUCK, if it ENTERED and isn't already");
        Twins.no("touch(1, 61)", x -> Twins.bit(x.touch(1, 61)), States.RUNNING, States.WHOLE, States.SECOND, States.SHUT, States.SHUT_FIRST,
                States.ALL_STRUCK, States.DONE);
        for (int sled = 0; sled < 4; sled++) {
            int s = sled;
            Twins.no("touch(" + s + ", 200)", x -> Twins.bit(x.touch(s, 200)), States.ALL_STRUCK);
        }
        Due.said("3.: EVENTS: .. a SLED that is STRUCK");
        IceRun x = sleds(16);
        x.race();
        x.begin(0);
        for (int s = 0; s < 16; s++) {
            Due.yes("touch(" + s + ", 101)", x.touch(s, 101));
            Due.no("again " + s, x.touch(s, 101));
            Due.is("events behind " + s, s + 1, x.count(8));
        }
        for (int i = 0; i < 16; i++) {
            Due.yes("who is struck comes down", x.start() > 0);
        }
        Due.is("whole", 1, x.count(5));
        Due.is("17 events", 17, x.count(8));
        Due.is("nobody has a rank", 0, x.close());
    }
}
