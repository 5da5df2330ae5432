/** The boundary cases of promises 26, 27, 28, 29: sums and ranks as known, the ice's part, time lost bend by bend. */
public final class StandingEdgesTest {
    private static final int LEAST = Integer.MIN_VALUE;
    private static final int MOST = Integer.MAX_VALUE;

    public static void main(String[] args) {
        firstEvents();
        twentyEvents();
        struckByThen();
        wholeByThen();
        cutByThen();
        ranksOfOne();
        ranksOfEvenOnes();
        ranksOfSixteen();
        sumsOfTotals();
        sumsBelowNought();
        sumRefusals();
        iceOfOne();
        iceOfAll();
        iceRefusals();
        iceOfTheStruck();
        lostSharedEvenly();
        lostSharedFromAnyGate();
        lostByItsOwnGates();
        lostAgainstThoseAtBoth();
        lostBehindTheLastTime();
        lostWithoutAnyTime();
        lostOfOne();
        lostBounds();
        lostRefusals();
        lastOfAll();
        Due.done();
    }

    private static void mend(IceRun x) {
        x.water(0, x.count(0));
        x.weather(51, -2, 0);
    }

    /** The next run, with new ice for each that starts. */
    private static void cleanRun(IceRun x) {
        x.begin(0);
        for (int i = 0; i < 16 && x.count(6) != IceRun.NONE; i++) {
            x.start();
            mend(x);
        }
    }

    /** Sleds of these weights, all of which start on new ice: 8 more weight are 1 less in each of 5 cells. */
    private static IceRun weights(int... weights) {
        IceRun x = new IceRun();
        x.track(5, 2);
        for (int weight : weights) {
            x.sled(0, weight, 0, 5);
        }
        x.race();
        return x;
    }

    private static int totalOf(int weight) {
        return 5 * (262 - weight / 8);
    }

    private static void known(String what, IceRun x, int s, int n, int rank, int sum) {
        Due.is(what + ": rank(" + s + ", " + n + ")", rank, x.rank(s, n));
        Due.is(what + ": sum(" + s + ", " + n + ")", sum, x.sum(s, n));
    }

    private static void firstEvents() {
        Due.said("26, 27: as known behind the first n EVENTS");
        IceRun x = weights(64, 72);
        known("no run", x, 0, 0, -1, -1);
        known("no run", x, 0, 1, -1, -1);
        x.begin(0);
        known("a run", x, 0, 0, -1, -1);
        x.start();
        mend(x);
        known("one down", x, x.order(0), 0, -1, -1);
        known("one down", x, x.order(0), 1, -1, -1);
        x.start();
        known("whole", x, 0, -1, -1, -1);
        known("whole", x, 0, 0, -1, -1);
        known("whole", x, 0, 1, 2, totalOf(64));
        known("whole", x, 1, 1, 1, totalOf(72));
        known("whole", x, 0, 2, -1, -1);
        known("whole", x, 1, 2, -1, -1);
        known("whole", x, 0, LEAST, -1, -1);
        known("whole", x, 0, MOST, -1, -1);
    }

    private static void twentyEvents() {
        Due.said("3.: EVENTS, numbered from 0 on in a RACE");
        int[] even = new int[16];
        java.util.Arrays.fill(even, 64);
        IceRun x = weights(even);
        for (int run = 0; run < 3; run++) {
            Due.runWhole(x, run);
        }
        x.begin(3);
        for (int s = 0; s < 16; s++) {
            x.touch(s, 200);
        }
        for (int i = 0; i < 16; i++) {
            x.start();
        }
        Due.is("events", 20, x.count(8));
        for (int n = 0; n <= 21; n++) {
            boolean last = n >= 1 && n < 19;
            Due.is("the last that is struck, behind " + n, last ? 1 : 0, x.rank(15, n) > 0 ? 1 : 0);
            boolean first = n >= 1 && n < 4;
            Due.is("the first that is struck, behind " + n, first ? 1 : 0, x.rank(0, n) > 0 ? 1 : 0);
        }
        Due.is("the last one alone", 1, x.rank(15, 18));
    }

    private static void struckByThen() {
        Due.said("3.: it has a RANK, if it isn't STRUCK by then");
        IceRun x = weights(80, 72, 64);
        cleanRun(x);
        x.touch(0, 150);
        x.touch(1, 150);
        known("ahead of it", x, 0, 1, 1, totalOf(80));
        known("behind it", x, 0, 2, -1, -1);
        known("for good", x, 0, 3, -1, -1);
        known("the next", x, 1, 1, 2, totalOf(72));
        known("the next moves up", x, 1, 2, 1, totalOf(72));
        known("the next is struck", x, 1, 3, -1, -1);
        known("the last", x, 2, 1, 3, totalOf(64));
        known("the last moves up", x, 2, 2, 2, totalOf(64));
        known("the last is left", x, 2, 3, 1, totalOf(64));

        IceRun early = weights(80, 72);
        early.begin(0);
        early.touch(0, 150);
        early.start();
        mend(early);
        early.start();
        known("struck ahead of the first whole run", early, 0, 0, -1, -1);
        known("struck ahead of the first whole run", early, 0, 1, -1, -1);
        known("struck ahead of the first whole run", early, 0, 2, -1, -1);
        known("the other has none by the strike alone", early, 1, 1, -1, -1);
        known("the other", early, 1, 2, 1, totalOf(72));
    }

    private static void wholeByThen() {
        Due.said("3.: SUM: of all RUNS that are WHOLE by then its totals");
        IceRun x = weights(80, 72);
        for (int run = 0; run < 4; run++) {
            known("ahead of run " + run, x, 0, run + 1, -1, -1);
            x.begin(0);
            x.start();
            known("in run " + run, x, 0, run, run == 0 ? -1 : 1, run == 0 ? -1 : run * totalOf(80));
            mend(x);
            x.start();
            mend(x);
            for (int n = 1; n <= run + 1; n++) {
                known("behind run " + run, x, 0, n, 1, n * totalOf(80));
                known("behind run " + run, x, 1, n, 2, n * totalOf(72));
            }
        }
    }

    private static void cutByThen() {
        Due.said("3.: it has a RANK, if it .. started in each of these");
        IceRun x = weights(80, 72, 64);
        Due.laws(x, "cut 2;");
        cleanRun(x);
        x.begin(0);
        known("while run 1 goes on", x, 2, 1, 3, totalOf(64));
        x.start();
        mend(x);
        x.start();
        known("behind run 1", x, 2, 2, -1, -1);
        known("known before", x, 2, 1, 3, totalOf(64));
        known("those that started", x, 0, 2, 1, 2 * totalOf(80));

        IceRun shut = weights(80, 72, 64);
        Due.laws(shut, "cut 1;");
        cleanRun(shut);
        shut.begin(0);
        shut.shut();
        known("a shut run cuts nobody", shut, 2, 1, 3, totalOf(64));
    }

    private static void ranksOfOne() {
        Due.said("27: RANK likewise (1 the first)");
        IceRun x = weights(100);
        cleanRun(x);
        known("alone", x, 0, 1, 1, 1250);
    }

    private static void ranksOfEvenOnes() {
        Due.said("3.: one more than how many that have one have a lesser SUM");
        IceRun x = weights(64, 72, 64, 80, 72, 64, 71);
        cleanRun(x);
        int[] due = {4, 2, 4, 1, 2, 4, 4};
        int[] weights = {64, 72, 64, 80, 72, 64, 71};
        for (int s = 0; s < 7; s++) {
            known("even", x, s, 1, due[s], totalOf(weights[s]));
        }
        x.touch(4, 150);
        int[] then = {3, 2, 3, 1, -1, 3, 3};
        for (int s = 0; s < 7; s++) {
            Due.is("rank(" + s + ", 2)", then[s], x.rank(s, 2));
        }
    }

    private static void ranksOfSixteen() {
        Due.said("27: RANK of sixteen");
        int[] weights = new int[16];
        for (int s = 0; s < 16; s++) {
            weights[s] = 72 + 8 * s;
        }
        IceRun x = weights(weights);
        cleanRun(x);
        for (int s = 0; s < 16; s++) {
            known("sixteen", x, s, 1, 16 - s, totalOf(weights[s]));
        }
        java.util.Arrays.fill(weights, 100);
        IceRun even = weights(weights);
        cleanRun(even);
        for (int s = 0; s < 16; s++) {
            known("sixteen even ones", even, s, 1, 1, 1250);
        }
    }

    private static void sumsOfTotals() {
        Due.said("26: SUM of a SLED: its totals (with 10000 more where the last GATE is MISSING)");
        IceRun x = weights(80, 72);
        x.begin(0);
        int first = x.order(0);
        x.eye(1, 0, 100);
        x.eye(1, 1, 100);
        Due.is("total", 10000, x.start());
        mend(x);
        x.eye(1, 0, 0);
        x.start();
        int other = 1 - first;
        known("the one without a time", x, first, 1, 2, 10000);
        known("the other", x, other, 1, 1, totalOf(other == 0 ? 80 : 72));
        mend(x);
        cleanRun(x);
        known("both runs", x, first, 2, 2, 10000 + totalOf(first == 0 ? 80 : 72));
    }

    private static void sumsBelowNought() {
        Due.said("26: SUM (an EYE's ERROR may bring it below 0)");
        IceRun x = new IceRun();
        x.track(5, 2);
        for (int c = 0; c < 5; c++) {
            x.bend(c, 50, 0, 0);
        }
        x.runners(0, 2, 9, -200, 0);
        x.sled(0, 200, 0, 9);
        x.sled(0, 200, 0, 9);
        x.race();
        x.begin(0);
        int first = x.order(0);
        x.eye(1, 0, -50);
        Due.is("total", -45, x.start());
        x.eye(1, 0, -5);
        Due.is("total of nought", 0, x.start());
        known("the first", x, first, 1, 1, -45);
        known("the other", x, 1 - first, 1, 2, 0);
        x.begin(0);
        x.eye(1, 0, 39);
        x.start();
        x.start();
        known("a sum of -1 is a sum", x, first, 2, 1, -1);
    }

    private static void sumRefusals() {
        Due.said("26, 27: NONE: it has no RANK then, no such ones");
        int[][] wrong = {{-1, 2}, {4, 2}, {5, 2}, {15, 2}, {16, 2}, {LEAST, 2}, {MOST, 2}, {0, -1}, {0, 0}, {0, 1}, {0, 3}, {0, LEAST}, {0, MOST},
            {1, 1}, {1, 2}, {-1, -1}, {16, 3}};
        // In the state WHOLE event 0 is a strike of sled 1, event 1 the whole run.
        for (int[] w : wrong) {
            String with = "(" + w[0] + ", " + w[1] + ")";
            Twins.none("sum" + with, x -> x.sum(w[0], w[1]), States.WHOLE);
            Twins.none("rank" + with, x -> x.rank(w[0], w[1]), States.WHOLE);
        }
        States[] without = {States.FRESH, States.TRACKED, States.RACED, States.EMPTY_RACE, States.BEGUN, States.RUNNING, States.SHUT_FIRST,
            States.CLOSED, States.FULL};
        for (int n = 0; n < 3; n++) {
            int many = n;
            Twins.none("sum(0, " + n + ")", x -> x.sum(0, many), without);
            Twins.none("rank(0, " + n + ")", x -> x.rank(0, many), without);
        }
        Twins.none("sum(0, 5)", x -> x.sum(0, 5), States.ALL_STRUCK);
        Twins.none("rank(0, 5)", x -> x.rank(0, 5), States.ALL_STRUCK);
        Twins.changesNothing("sum(0, 1)", x -> x.sum(0, 1), States.ALL);
        Twins.changesNothing("rank(0, 1)", x -> x.rank(0, 1), States.ALL);
    }

    private static void iceOfOne() {
        Due.said("4.: how many started times the STANDARD, less the sum of the STANDARDS (of one alone: 0)");
        IceRun x = weights(200);
        for (int run = 0; run < 4; run++) {
            Due.is("ahead of run " + run, Due.THROWN, Due.ice(x, run, 0));
            x.begin(0);
            Due.is("run " + run + " goes on", Due.THROWN, Due.ice(x, run, 0));
            x.start();
            Due.is("run " + run, 0, Due.ice(x, run, 0));
        }
        Due.is("run 4", Due.THROWN, Due.ice(x, 4, 0));
        Due.is("run -1", Due.THROWN, Due.ice(x, -1, 0));
    }

    private static void iceOfAll() {
        Due.said("4.: ICE's part: how many started times the STANDARD as this SLED started, less the sum of the STANDARDS");
        int[] sizes = {2, 3, 16};
        for (int many : sizes) {
            int[] weights = new int[many];
            for (int s = 0; s < many; s++) {
                weights[s] = 50 + 9 * s;
            }
            IceRun x = weights(weights);
            x.bend(2, 333, 7, 5);
            x.begin(many);
            int[] standards = new int[many];
            int sum = 0;
            for (int i = 0; i < many; i++) {
                x.weather(1 + i, i % 2 == 0 ? 3 : -2, 1);
                int s = x.order(i);
                standards[s] = x.standard();
                sum += standards[s];
                Due.is("not whole", Due.THROWN, Due.ice(x, 0, s));
                x.start();
            }
            x.weather(5, 30, 3);
            for (int s = 0; s < many; s++) {
                Due.is("ice of " + s + " of " + many, many * standards[s] - sum, Due.ice(x, 0, s));
            }
        }
    }

    private static void iceRefusals() {
        Due.said("28: NoSuchElementException: the RUN is not WHOLE");
        int[] runs = {-1, 1, 2, 3, 4, LEAST, MOST};
        for (int run : runs) {
            Twins.refused("ice(" + run + ", 0)", Due.THROWN, x -> Due.ice(x, run, 0), States.WHOLE, States.SECOND, States.SHUT);
        }
        Twins.refused("ice(0, 0)", Due.THROWN, x -> Due.ice(x, 0, 0), States.FRESH, States.TRACKED, States.RACED, States.EMPTY_RACE,
                States.BEGUN, States.RUNNING, States.SHUT_FIRST, States.CLOSED, States.FULL);
        Due.said("28: NoSuchElementException: the SLED did not start in it");
        int[] others = {-1, 4, 5, 15, 16, LEAST, MOST};
        for (int s : others) {
            Twins.refused("ice(0, " + s + ")", Due.THROWN, x -> Due.ice(x, 0, s), States.WHOLE, States.DONE);
        }
        Twins.refused("ice(1, 1)", Due.THROWN, x -> Due.ice(x, 1, 1), States.DONE);
        Twins.changesNothing("ice(0, 0)", x -> Due.ice(x, 0, 0), States.ALL);
    }

    private static void iceOfTheStruck() {
        Due.said("28: (a SLED that is STRUCK has started)");
        IceRun x = weights(64, 64);
        x.begin(0);
        int first = x.order(0);
        x.touch(first, 150);
        x.start();
        x.start();
        // Ruts of 2: 4 more in each of 5 cells, behind the first start; 502 / 8 = 62 as before.
        Due.is("the struck one", -20, Due.ice(x, 0, first));
        Due.is("the other", 20, Due.ice(x, 0, 1 - first));
    }

    private static void breakGate(IceRun x, int gate) {
        x.eye(gate, 0, 100);
        x.eye(gate, 1, 100);
    }

    /** Two even sleds; the second one's time at the last gate is more by the error. Gates between are missing. */
    private static void lostSharedEvenly() {
        Due.said("4.: shared by the BENDS between these GATES, as evenly as can be, the first ones one more");
        for (int bends = 1; bends <= 5; bends++) {
            for (int loss = 0; loss <= 50; loss++) {
                IceRun x = new IceRun();
                x.track(10, bends + 1);
                x.sled(0, 64, 0, 5);
                x.sled(0, 64, 0, 5);
                for (int gate = 1; gate < bends; gate++) {
                    breakGate(x, gate);
                }
                x.race();
                x.begin(0);
                int first = x.order(0);
                x.start();
                mend(x);
                x.eye(bends, 0, loss);
                x.start();
                for (int k = 0; k < bends; k++) {
                    int due = loss / bends + (k < loss % bends ? 1 : 0);
                    Due.is(loss + " over " + bends + " in " + k, due, x.lost(0, 1 - first, k));
                    Due.is("none over " + bends + " in " + k, 0, x.lost(0, first, k));
                }
            }
        }
        Due.said("4.: (a loss of 100, by errors of -50 and 50)");
        IceRun x = new IceRun();
        x.track(10, 6);
        x.sled(0, 64, 0, 5);
        x.sled(0, 64, 0, 5);
        x.race();
        x.begin(0);
        int first = x.order(0);
        x.eye(3, 0, -50);
        x.start();
        mend(x);
        x.eye(3, 0, 50);
        x.start();
        int[] due = {0, 0, 100, 0, 0};
        int[] ofTheFirst = {0, 0, 0, 100, 0};
        for (int k = 0; k < 5; k++) {
            Due.is("lost in " + k, due[k], x.lost(0, 1 - first, k));
            Due.is("lost by the first in " + k, ofTheFirst[k], x.lost(0, first, k));
        }
    }

    /** The second of two even sleds has no time between two gates, and at the latter one it errs by its loss. */
    private static void lostSharedFromAnyGate() {
        Due.said("4.: shared by the BENDS between these GATES .. the first ones one more (of these BENDS)");
        for (int from = 0; from < 5; from++) {
            for (int to = from + 1; to < 6; to++) {
                for (int loss = 0; loss <= 3 * (to - from); loss++) {
                    IceRun x = new IceRun();
                    x.track(10, 6);
                    x.sled(0, 56, 0, 5);
                    x.sled(0, 56, 0, 5);
                    x.race();
                    x.begin(0);
                    int first = x.order(0);
                    x.start();
                    mend(x);
                    for (int gate = from + 1; gate < to; gate++) {
                        breakGate(x, gate);
                    }
                    x.eye(to, 0, loss);
                    x.start();
                    sharedBetween(x, from, to, loss, first);
                }
            }
        }
    }

    private static void sharedBetween(IceRun x, int from, int to, int loss, int first) {
        String what = loss + " from gate " + from + " to " + to;
        int bends = to - from;
        for (int k = 0; k < 5; k++) {
            boolean between = k >= from && k < to;
            int due = between ? loss / bends + (k - from < loss % bends ? 1 : 0) : 0;
            Due.is(what + ", in " + k, due, x.lost(0, 1 - first, k));
            // Behind the gate that errs the second is faster by as much.
            Due.is(what + ", by the first in " + k, k == to ? loss : 0, x.lost(0, first, k));
        }
    }

    /** Three even sleds on ten cells with six gates, 510 from gate to gate; the order is kept by the caller. */
    private static IceRun three() {
        IceRun x = new IceRun();
        x.track(10, 6);
        x.sled(0, 56, 0, 5);
        x.sled(0, 56, 0, 5);
        x.sled(0, 56, 0, 5);
        x.race();
        x.begin(0);
        return x;
    }

    private static void lost(String what, IceRun x, int s, int... due) {
        for (int k = 0; k < due.length; k++) {
            Due.is(what + ": lost(0, " + s + ", " + k + ")", due[k], x.lost(0, s, k));
        }
    }

    private static void lostByItsOwnGates() {
        Due.said("4.: between two GATES next to one another of those that have a time of it");
        IceRun x = three();
        x.start();
        mend(x);
        breakGate(x, 1);
        breakGate(x, 3);
        breakGate(x, 4);
        x.eye(2, 0, 7);
        x.start();
        mend(x);
        for (int gate = 1; gate < 6; gate++) {
            x.eye(gate, 0, 0);
        }
        x.start();
        lost("7 over the first two, then back", x, x.order(1), 4, 3, 0, 0, 0);
        lost("behind gate 2 the others lose 7 in none of their bends", x, x.order(0), 0, 0, 0, 0, 0);
    }

    private static void lostAgainstThoseAtBoth() {
        Due.said("4.: less the least such of all in the RUN that have a time at both");
        IceRun x = three();
        breakGate(x, 2);
        x.eye(3, 0, -40);
        x.start();
        mend(x);
        x.eye(2, 0, 0);
        x.eye(3, 0, 0);
        breakGate(x, 1);
        x.start();
        mend(x);
        x.eye(1, 0, 0);
        breakGate(x, 2);
        breakGate(x, 3);
        x.start();
        // a: 510 - 1490 2040 2550; b: - 1020 1530 2040 2550; c: 510 - - 2040 2550.
        lost("a, without gate 2", x, x.order(0), 0, 0, 0, 40, 0);
        lost("b, without gate 1", x, x.order(1), 0, 0, 0, 0, 0);
        lost("c, without gates 2 and 3", x, x.order(2), 0, 0, 0, 0, 0);
        Due.is("b at gate 1", -1, x.time(0, x.order(1), 1));
        Due.is("a at gate 3", 1490, x.time(0, x.order(0), 3));
    }

    private static void lostBehindTheLastTime() {
        Due.said("4.: (Behind the last GATE with a time nothing is told.)");
        for (int last = 0; last < 6; last++) {
            IceRun x = three();
            x.start();
            mend(x);
            for (int gate = last + 1; gate < 6; gate++) {
                breakGate(x, gate);
            }
            x.start();
            mend(x);
            x.start();
            for (int k = 0; k < 5; k++) {
                Due.is("with gate " + last + " the last: lost in " + k, k < last ? 0 : -1, x.lost(0, x.order(1), k));
                Due.is("with all gates: lost in " + k, 0, x.lost(0, x.order(0), k));
            }
        }
    }

    private static void lostWithoutAnyTime() {
        Due.said("29: NONE: nothing is told of it");
        IceRun x = new IceRun();
        x.track(5, 2);
        x.sled(0, 100, 0, 5);
        breakGate(x, 1);
        x.race();
        Due.runWhole(x, 0);
        Due.is("the only bend", -1, x.lost(0, 0, 0));
        Due.is("its ice is told", 0, Due.ice(x, 0, 0));
    }

    private static void lostOfOne() {
        Due.said("4.: (of one alone the least is its own)");
        IceRun x = new IceRun();
        x.track(10, 6);
        x.sled(0, 100, 0, 0);
        x.eye(2, 0, 50);
        x.eye(3, 0, -50);
        x.race();
        Due.runWhole(x, 0);
        lost("alone", x, 0, 0, 0, 0, 0, 0, -1);
    }

    private static void lostBounds() {
        Due.said("29: LOST in BEND k (from GATE k to GATE k + 1); NONE: no such BEND");
        for (int g = 2; g <= 6; g++) {
            IceRun x = new IceRun();
            x.track(10, g);
            x.sled(0, 100, 0, 5);
            x.race();
            x.begin(0);
            Due.is("not down of " + g, -1, x.lost(0, 0, 0));
            x.start();
            for (int k = 0; k < g - 1; k++) {
                Due.is("bend " + k + " of " + g, 0, x.lost(0, 0, k));
            }
            int[] others = {-1, g - 1, g, LEAST, MOST};
            for (int k : others) {
                Due.is("bend " + k + " of " + g, -1, x.lost(0, 0, k));
            }
        }
    }

    private static void lostRefusals() {
        Due.said("29: NONE: the RUN is not WHOLE");
        int[] runs = {-1, 1, 2, 3, 4, LEAST, MOST};
        for (int run : runs) {
            Twins.none("lost(" + run + ", 0, 1)", x -> x.lost(run, 0, 1), States.WHOLE, States.SECOND, States.SHUT);
        }
        Twins.none("lost(0, 0, 0)", x -> x.lost(0, 0, 0), States.FRESH, States.TRACKED, States.RACED, States.EMPTY_RACE, States.BEGUN,
                States.RUNNING, States.SHUT_FIRST, States.CLOSED, States.FULL);
        Due.said("29: NONE: the SLED did not start in it");
        int[] others = {-1, 4, 5, 15, 16, LEAST, MOST};
        for (int s : others) {
            Twins.none("lost(0, " + s + ", 1)", x -> x.lost(0, s, 1), States.WHOLE, States.DONE);
        }
        Twins.none("lost(1, 1, 1)", x -> x.lost(1, 1, 1), States.DONE);
        Due.said("29: NONE: no such BEND");
        int[] bends = {-1, 4, 5, LEAST, MOST};
        for (int k : bends) {
            Twins.none("lost(0, 0, " + k + ")", x -> x.lost(0, 0, k), States.WHOLE);
        }
        Twins.changesNothing("lost(0, 0, 1)", x -> x.lost(0, 0, 1), States.ALL);
    }

    /** RUN 3, SLED 15, GATE 5: nothing is kept behind it. */
    private static void lastOfAll() {
        Due.said("24, 25, 28, 29: NONE: no such ones, nothing is told of it (in the last RUN, of the last SLED)");
        IceRun x = new IceRun();
        x.track(10, 6);
        for (int s = 0; s < 16; s++) {
            x.sled(0, 56, 0, 5);
        }
        x.race();
        for (int run = 0; run < 3; run++) {
            Due.runWhole(x, run);
        }
        x.begin(0);
        for (int i = 0; i < 16; i++) {
            int error = x.order(i) == 15 ? 100 : 0;
            x.eye(5, 0, error);
            x.eye(5, 1, error);
            x.start();
        }
        Due.is("time at its last gate", -1, x.time(3, 15, 5));
        Due.yes("time at the gate ahead", x.time(3, 15, 4) > 0);
        Due.yes("lost ahead of it", x.lost(3, 15, 3) >= 0);
        Due.is("lost in the last bend", -1, x.lost(3, 15, 4));
        for (int beyond = 5; beyond < 12; beyond++) {
            Due.is("lost in " + beyond, -1, x.lost(3, 15, beyond));
            Due.is("time at " + (beyond + 1), -1, x.time(3, 15, beyond + 1));
            Due.is("twice at " + (beyond + 1), -1, x.twice(3, 15, beyond + 1));
        }
        Due.yes("its ice", Due.ice(x, 3, 15) != Due.THROWN);
        Due.is("ice of 16", Due.THROWN, Due.ice(x, 3, 16));
        Due.is("ice in 4", Due.THROWN, Due.ice(x, 4, 0));
        Due.is("rank of 16", -1, x.rank(16, 4));
        Due.yes("rank of 15", x.rank(15, 4) == 16);
    }
}
