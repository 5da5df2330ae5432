/** The boundary cases of promises 11, 12, 24, 25, and of how a sled comes down (21): eyes, sleds, times, wear. */
public final class GateEdgesTest {
    private static final int LEAST = Integer.MIN_VALUE;
    private static final int MOST = Integer.MAX_VALUE;

    public static void main(String[] args) {
        eyesOfEveryGate();
        eyeRefusals();
        eyeErrors();
        eyesInAnyState();
        sledBounds();
        sledRefusals();
        sixteenSleds();
        sledsInAnyState();
        weightIsCut();
        skillAndSharp();
        glideOfItsKind();
        rutByWeight();
        rutIsAHundredAtMost();
        hardnessIsNoughtAtLeast();
        cellByCell();
        doubles();
        firstEyeThatIsWhole();
        missingLastGate();
        missingGates();
        gateNoughtIsNought();
        timesByRun();
        timeRefusals();
        notDownYet();
        Due.done();
    }

    private static IceRun oneSled(int cells, int gates) {
        IceRun x = new IceRun();
        x.track(cells, gates);
        x.sled(0, 100, 0, 5);
        x.race();
        return x;
    }

    /** Makes the ice new again behind one start on new ice. */
    private static void mend(IceRun x) {
        x.water(0, x.count(0));
        x.weather(51, -2, 0);
    }

    private static void eyesOfEveryGate() {
        Due.said("11: An EYE (0, 1) of a GATE (but the first)");
        for (int g = 2; g <= 6; g++) {
            IceRun x = oneSled(10, g);
            Due.no("gate 0 of " + g, x.eye(0, 0, 1));
            for (int gate = 1; gate < g; gate++) {
                Due.yes("eye(" + gate + ", 0, " + gate + ")", x.eye(gate, 0, gate));
                Due.yes("eye(" + gate + ", 1, " + -gate + ")", x.eye(gate, 1, -gate));
            }
            Due.no("gate " + g + " of " + g, x.eye(g, 0, 1));
            Due.no("gate " + g + " of " + g, x.eye(g, 1, 100));
            x.begin(0);
            x.start();
            for (int gate = 1; gate < g; gate++) {
                int ahead = gate * 10 / (g - 1);
                Due.is("time at " + gate + " of " + g, 250 * ahead + gate, x.time(0, 0, gate));
                Due.is("twice at " + gate + " of " + g, 2 * gate, x.twice(0, 0, gate));
            }
        }
    }

    private static void eyeRefusals() {
        Due.said("11: False: other numbers");
        int[] errors = {-51, 51, 99, 101, -99, -100, -101, LEAST, MOST};
        for (int error : errors) {
            refusedEye(1, 0, error);
            refusedEye(4, 1, error);
        }
        Due.said("11: False: no such GATE but the first");
        int[] gates = {-1, 0, 5, 6, LEAST, MOST};
        for (int gate : gates) {
            refusedEye(gate, 0, 7);
            refusedEye(gate, 1, 100);
        }
        Due.said("11: False: no such EYE");
        int[] eyes = {-1, 2, LEAST, MOST};
        for (int k : eyes) {
            refusedEye(1, k, 7);
            refusedEye(4, k, 100);
        }
        Due.said("11: False: (no TRACK, so no GATE)");
        for (int gate = 0; gate < 6; gate++) {
            int g = gate;
            Twins.no("eye(" + g + ", 0, 0)", x -> Twins.bit(x.eye(g, 0, 0)), States.FRESH);
        }
    }

    private static void refusedEye(int gate, int k, int error) {
        Twins.no("eye(" + gate + ", " + k + ", " + error + ")", x -> Twins.bit(x.eye(gate, k, error)), States.TRACKED, States.RUNNING);
    }

    private static void eyeErrors() {
        Due.said("Terms: an ERROR (-50 to 50, 0 at first)");
        int[] errors = {-50, -49, -1, 0, 1, 49, 50};
        for (int error : errors) {
            for (int k = 0; k < 2; k++) {
                IceRun x = oneSled(5, 2);
                x.eye(1, 1 - k, 100);
                Due.yes("eye(1, " + k + ", " + error + ")", x.eye(1, k, error));
                x.begin(0);
                Due.is("total by " + error + " of eye " + k, 1250 + error, x.start());
                Due.is("time by " + error + " of eye " + k, 1250 + error, x.time(0, 0, 1));
            }
        }
        Due.said("11: or (100) is BROKEN");
        IceRun x = oneSled(5, 2);
        Due.yes("eye(1, 0, 100)", x.eye(1, 0, 100));
        Due.yes("eye(1, 1, 100)", x.eye(1, 1, 100));
        x.begin(0);
        Due.is("total of none", 10000, x.start());
        Due.yes("whole again", x.eye(1, 1, 50));
        mend(x);
        x.begin(0);
        Due.is("total by eye 1", 1300, x.start());
    }

    private static void eyesInAnyState() {
        Due.said("11: (no state but that without a TRACK refuses it)");
        for (States state : States.WITH_TRACK) {
            IceRun x = state.make();
            Due.yes("eye in " + state, x.eye(1, 0, 3));
            Due.yes("eye of the last gate in " + state, x.eye(x.count(1) - 1, 1, -50));
        }
    }

    private static void sledBounds() {
        Due.said("12: a TEAM (0 to 3), WEIGHT (50 to 200), KIND (0 to 3), SKILL (0 to 9)");
        int[][] right = {{0, 100, 1, 5}, {3, 100, 1, 5}, {1, 50, 1, 5}, {1, 200, 1, 5}, {1, 100, 0, 5}, {1, 100, 3, 5}, {1, 100, 1, 0},
            {1, 100, 1, 9}, {0, 50, 0, 0}, {3, 200, 3, 9}};
        IceRun x = new IceRun();
        for (int i = 0; i < right.length; i++) {
            int[] r = right[i];
            Due.is("sled(" + r[0] + ", " + r[1] + ", " + r[2] + ", " + r[3] + ")", i, x.sled(r[0], r[1], r[2], r[3]));
            Due.is("count(2)", i + 1, x.count(2));
        }
    }

    private static void sledRefusals() {
        Due.said("12: NONE: other numbers");
        int[][] wrong = {{-1, 100, 1, 5}, {4, 100, 1, 5}, {1, 49, 1, 5}, {1, 201, 1, 5}, {1, 100, -1, 5}, {1, 100, 4, 5}, {1, 100, 1, -1},
            {1, 100, 1, 10}, {LEAST, 100, 1, 5}, {MOST, 100, 1, 5}, {1, LEAST, 1, 5}, {1, MOST, 1, 5}, {1, 100, LEAST, 5}, {1, 100, MOST, 5},
            {1, 100, 1, LEAST}, {1, 100, 1, MOST}};
        for (int[] w : wrong) {
            Twins.none("sled(" + w[0] + ", " + w[1] + ", " + w[2] + ", " + w[3] + ")", x -> x.sled(w[0], w[1], w[2], w[3]), States.FRESH,
                    States.TRACKED, States.RUNNING, States.FULL);
        }
        Due.said("12: NONE: 16 are there");
        Twins.none("sled(0, 100, 0, 5)", x -> x.sled(0, 100, 0, 5), States.FULL);
        Twins.none("sled(3, 50, 3, 9)", x -> x.sled(3, 50, 3, 9), States.FULL);
    }

    private static void sixteenSleds() {
        Due.said("12: A SLED: its number (at most 16, numbered as they come)");
        IceRun x = new IceRun();
        for (int s = 0; s < 16; s++) {
            Due.is("a wrong one", -1, x.sled(0, 49, 0, 0));
            Due.is("sled " + s, s, x.sled(s % 4, 50 + s, 0, 0));
        }
        Due.is("one more", -1, x.sled(0, 50, 0, 0));
        Due.is("count(2)", 16, x.count(2));
        x.track(5, 2);
        x.race();
        x.begin(0);
        Due.is("all enter", 16, x.count(10));
        Due.is("none more while a run goes on", -1, x.sled(0, 50, 0, 0));
    }

    private static void sledsInAnyState() {
        Due.said("12: (no state refuses it but 16)");
        for (States state : States.ALL) {
            IceRun x = state.make();
            int many = x.count(2);
            Due.is("sled in " + state, state == States.FULL ? -1 : many, x.sled(0, 50, 0, 9));
        }
        Due.said("3.: SLEDS that ENTER: all .. as RUN 0 begins");
        IceRun x = States.BEGUN.make();
        int entered = x.count(10);
        x.sled(0, 50, 0, 9);
        Due.is("one that comes later", entered, x.count(10));
        Due.no("it is not touched", x.touch(5, 200));
        Due.is("nor in the order", -1, x.order(entered));
    }

    private static int total(int weight, int skill, int sharp) {
        IceRun x = new IceRun();
        x.track(5, 2);
        x.bend(2, 200, sharp, 0);
        x.sled(0, weight, 0, skill);
        x.race();
        x.begin(0);
        return x.start();
    }

    private static void weightIsCut() {
        Due.said("Terms: - WEIGHT / 8 (cut)");
        int[][] due = {{50, 6}, {55, 6}, {56, 7}, {63, 7}, {64, 8}, {127, 15}, {128, 16}, {199, 24}, {200, 25}};
        for (int[] d : due) {
            Due.is("total by weight " + d[0], 5 * (262 - d[1]), total(d[0], 5, 0));
        }
    }

    private static void skillAndSharp() {
        Due.said("Terms: (9 - SKILL) * SHARP");
        int[][] due = {{0, 0, 0}, {9, 9, 0}, {9, 0, 0}, {0, 9, 81}, {0, 1, 9}, {8, 9, 9}, {1, 1, 8}};
        for (int[] d : due) {
            Due.is("total by skill " + d[0] + " where it is sharp " + d[1], 1250 + d[2], total(100, d[0], d[1]));
        }
    }

    private static void glideOfItsKind() {
        Due.said("Terms: GLIDE of its KIND");
        for (int kind = 0; kind < 4; kind++) {
            IceRun x = new IceRun();
            x.track(5, 2);
            for (int k = 0; k < 4; k++) {
                x.runners(k, 2, 9, 10 + k, 0);
            }
            x.sled(0, 100, kind, 5);
            x.race();
            x.begin(0);
            Due.is("total by kind " + kind, 1250 + 5 * (10 + kind), x.start());
        }
    }

    private static void rutByWeight() {
        Due.said("Terms: behind each RUT is 1 and WEIGHT / 64 (cut) more");
        int[][] due = {{50, 1}, {63, 1}, {64, 2}, {127, 2}, {128, 3}, {191, 3}, {192, 4}, {200, 4}};
        for (int[] d : due) {
            IceRun x = new IceRun();
            x.track(40, 2);
            x.sled(0, d[0], 0, 5);
            x.race();
            x.begin(0);
            x.start();
            Due.is("rut of the first cell by " + d[0], d[1], x.cell(0, 4));
            Due.is("rut of the last cell by " + d[0], d[1], x.cell(39, 4));
        }
    }

    /** A race of one run, in which all that enter come down. */
    private static void race(IceRun x) {
        x.race();
        x.begin(0);
        for (int i = 0; i < 16 && x.count(6) != IceRun.NONE; i++) {
            x.start();
        }
    }

    private static void rutIsAHundredAtMost() {
        Due.said("Terms: RUT, 100 at most");
        IceRun heavy = new IceRun();
        heavy.track(5, 2);
        heavy.sled(0, 200, 0, 5);
        for (int i = 1; i <= 24; i++) {
            race(heavy);
            Due.is("by fours " + i, 4 * i, heavy.cell(0, 4));
        }
        race(heavy);
        Due.is("96 and 4", 100, heavy.cell(0, 4));
        race(heavy);
        Due.is("100 and 4", 100, heavy.cell(0, 4));

        int[][] due = {{97, 100}, {98, 100}, {99, 100}};
        for (int[] d : due) {
            IceRun x = new IceRun();
            x.track(5, 2);
            x.sled(0, 200, 0, 5);
            for (int i = 0; i < 24; i++) {
                race(x);
            }
            x.sled(0, 50, 0, 5);
            Due.laws(x, "weight 50;");
            for (int rut = 96; rut < d[0]; rut++) {
                race(x);
            }
            Due.is("by ones", d[0], x.cell(4, 4));
            Due.laws(x, "");
            x.race();
            x.begin(0);
            Due.is("the standard of it", 5 * (200 + (1000 - x.cell(0, 3)) / 8 + 2 * d[0] - 12), x.standard());
            x.start();
            x.start();
            Due.is("5 more than " + d[0], d[1], x.cell(4, 4));
            Due.is("the standard of 100", 5 * (200 + (1000 - x.cell(0, 3)) / 8 + 200 - 12), x.standard());
        }
    }

    private static void hardnessIsNoughtAtLeast() {
        Due.said("Terms: HARDNESS 2 less, 0 at least");
        int[][] due = {{1000, 998}, {4, 2}, {3, 1}, {2, 0}, {1, 0}, {0, 0}};
        for (int[] d : due) {
            IceRun x = oneSled(5, 2);
            for (int left = d[0] - 500; left != 0; left = d[0] - x.cell(0, 3)) {
                x.weather(Math.min(600, Math.abs(left)), left > 0 ? -1 : 1, 0);
            }
            x.begin(0);
            Due.is("total at " + d[0], 5 * (200 + (1000 - d[0]) / 8 - 12), x.start());
            Due.is("hardness behind " + d[0], d[1], x.cell(0, 3));
            Due.is("in the last cell too", d[1], x.cell(4, 3));
            if (d[0] < 500) {
                x.weather(1, -1, 0);
                Due.is("one more than that", d[1] + 1, x.cell(0, 3));
            }
        }
    }

    private static void cellByCell() {
        Due.said("Terms: It goes CELL by CELL: behind each ..");
        // A cell's time is by its rut and hardness ahead of the sled; at 500 entry 4, behind it at 498 entry 3.
        IceRun x = new IceRun();
        x.track(5, 6);
        x.runners(0, 2, 9, 0, 10);
        x.sled(0, 100, 0, 5);
        x.sled(0, 100, 0, 5);
        x.race();
        x.begin(0);
        int[] order = {x.order(0), x.order(1)};
        Due.is("first", 5 * (250 + 40), x.start());
        Due.is("second", 5 * (250 + 30 + 4), x.start());
        for (int gate = 0; gate < 6; gate++) {
            Due.is("first at " + gate, gate * 290, x.time(0, order[0], gate));
            Due.is("second at " + gate, gate * 284, x.time(0, order[1], gate));
        }
    }

    private static void doubles() {
        Due.said("Terms: DOUBLE: the size of the difference of both EYES (0, if one is BROKEN)");
        int[][] due = {{0, 0, 0}, {50, -50, 100}, {-50, 50, 100}, {50, 50, 0}, {-1, 0, 1}, {0, -1, 1}, {100, 50, 0}, {-50, 100, 0}, {100, 0, 0},
            {0, 100, 0}, {100, 100, 0}, {49, 50, 1}};
        for (int[] d : due) {
            IceRun x = oneSled(5, 2);
            x.eye(1, 0, d[0]);
            x.eye(1, 1, d[1]);
            x.begin(0);
            x.start();
            Due.is("twice by " + d[0] + " and " + d[1], d[2], x.twice(0, 0, 1));
        }
    }

    private static void firstEyeThatIsWhole() {
        Due.said("Terms: TRUE and the ERROR of the first EYE that is not BROKEN; MISSING, if both are");
        int[][] due = {{3, 8, 1253}, {-3, 100, 1247}, {100, 8, 1258}, {100, -8, 1242}, {100, 100, -1}, {0, 100, 1250}, {100, 0, 1250}};
        for (int[] d : due) {
            IceRun x = oneSled(5, 2);
            x.eye(1, 0, d[0]);
            x.eye(1, 1, d[1]);
            x.begin(0);
            Due.is("total by " + d[0] + " and " + d[1], d[2] == -1 ? 10000 : d[2], x.start());
            Due.is("time by " + d[0] + " and " + d[1], d[2], x.time(0, 0, 1));
        }
    }

    private static void breakGate(IceRun x, int gate) {
        x.eye(gate, 0, 100);
        x.eye(gate, 1, 100);
    }

    private static void missingLastGate() {
        Due.said("3.: if the last one is MISSING, its total is that at the latest GATE that isn't and 10000 more");
        for (int g = 2; g <= 6; g++) {
            for (int latest = 0; latest < g; latest++) {
                IceRun x = oneSled(10, g);
                for (int gate = latest + 1; gate < g; gate++) {
                    breakGate(x, gate);
                }
                x.begin(0);
                int ahead = latest * 10 / (g - 1);
                int due = 250 * ahead + (latest == g - 1 ? 0 : 10000);
                Due.is("total by gate " + latest + " of " + g, due, x.start());
                Due.is("sum by gate " + latest + " of " + g, due, x.sum(0, 1));
            }
        }
        IceRun x = oneSled(10, 6);
        breakGate(x, 5);
        breakGate(x, 3);
        x.eye(4, 0, -50);
        x.begin(0);
        Due.is("the latest errs", 2000 - 50 + 10000, x.start());
    }

    private static void missingGates() {
        Due.said("24: NONE: MISSING");
        for (int broken = 0; broken < 32; broken++) {
            IceRun x = oneSled(10, 6);
            for (int gate = 1; gate < 6; gate++) {
                if ((broken >> (gate - 1) & 1) == 1) {
                    breakGate(x, gate);
                }
            }
            x.begin(0);
            x.start();
            for (int gate = 0; gate < 6; gate++) {
                boolean missing = gate > 0 && (broken >> (gate - 1) & 1) == 1;
                Due.is("time at " + gate + " by " + broken, missing ? -1 : 500 * gate, x.time(0, 0, gate));
                Due.is("twice at " + gate + " by " + broken, 0, x.twice(0, 0, gate));
            }
        }
    }

    private static void gateNoughtIsNought() {
        Due.said("Terms: GATE 0's is 0; 25: (0 at GATE 0)");
        for (int g = 2; g <= 6; g++) {
            IceRun x = oneSled(12, g);
            for (int gate = 1; gate < g; gate++) {
                x.eye(gate, 0, 20);
            }
            x.begin(0);
            x.start();
            Due.is("time at 0 of " + g, 0, x.time(0, 0, 0));
            Due.is("twice at 0 of " + g, 0, x.twice(0, 0, 0));
        }
    }

    private static void timesByRun() {
        Due.said("24: in a RUN of this RACE that is WHOLE or goes on");
        IceRun x = oneSled(5, 2);
        x.eye(1, 1, 6);
        for (int run = 0; run < 4; run++) {
            Due.is("ahead of run " + run, -1, x.time(run, 0, 1));
            Due.is("twice ahead of run " + run, -1, x.twice(run, 0, 1));
            x.begin(0);
            Due.is("not down in run " + run, -1, x.time(run, 0, 1));
            Due.is("not down in run " + run + ", gate 0", -1, x.time(run, 0, 0));
            Due.is("twice, not down in run " + run, -1, x.twice(run, 0, 0));
            x.start();
            mend(x);
        }
        for (int run = 0; run < 4; run++) {
            Due.is("time in run " + run, 1250, x.time(run, 0, 1));
            Due.is("twice in run " + run, 6, x.twice(run, 0, 1));
        }
        Due.is("no run 4", -1, x.time(4, 0, 1));
        Due.is("twice, no run 4", -1, x.twice(4, 0, 1));

        IceRun shut = States.SHUT.make();
        int s = shut.order(0);
        Due.said("24: (a RUN that is SHUT is neither)");
        Due.is("gate 0 of it", -1, shut.time(1, s, 0));
        Due.is("gate 2 of it", -1, shut.time(1, s, 2));
        Due.is("twice of it", -1, shut.twice(1, s, 2));
        Due.yes("the one ahead is there", shut.time(0, s, 2) > 0);
    }

    private static void timeRefusals() {
        Due.said("24, 25: NONE: no such ones");
        int[][] wrong = {{-1, 0, 0}, {1, 0, 0}, {3, 0, 0}, {4, 0, 0}, {0, -1, 0}, {0, 4, 0}, {0, 5, 0}, {0, 15, 0}, {0, 16, 0}, {0, 0, -1},
            {0, 0, 5}, {0, 0, 6}, {LEAST, 0, 0}, {MOST, 0, 0}, {0, LEAST, 0}, {0, MOST, 0}, {0, 0, LEAST}, {0, 0, MOST}, {-1, -1, -1},
            {MOST, MOST, MOST}, {LEAST, LEAST, LEAST}};
        for (int[] w : wrong) {
            String with = "(" + w[0] + ", " + w[1] + ", " + w[2] + ")";
            Twins.none("time" + with, x -> x.time(w[0], w[1], w[2]), States.WHOLE);
            Twins.none("twice" + with, x -> x.twice(w[0], w[1], w[2]), States.WHOLE);
        }
        Twins.none("time(0, 0, 0)", x -> x.time(0, 0, 0), States.FRESH, States.TRACKED, States.RACED, States.EMPTY_RACE, States.BEGUN,
                States.SHUT_FIRST, States.CLOSED, States.FULL);
        Twins.none("twice(0, 0, 0)", x -> x.twice(0, 0, 0), States.FRESH, States.TRACKED, States.RACED, States.EMPTY_RACE, States.BEGUN,
                States.SHUT_FIRST, States.CLOSED, States.FULL);
        Twins.changesNothing("time(0, 0, 2)", x -> x.time(0, 0, 2), States.ALL);
        Twins.changesNothing("twice(0, 0, 2)", x -> x.twice(0, 0, 2), States.ALL);
    }

    private static void notDownYet() {
        Due.said("24, 25: NONE: it has not come down there");
        IceRun x = new IceRun();
        x.track(6, 3);
        for (int s = 0; s < 16; s++) {
            x.sled(0, 100, 0, 5);
        }
        x.race();
        x.begin(99);
        for (int i = 0; i < 16; i++) {
            int s = x.order(i);
            Due.is("time of " + i, -1, x.time(0, s, 0));
            Due.is("twice of " + i, -1, x.twice(0, s, 0));
            x.start();
            Due.is("time of " + i + " then", 0, x.time(0, s, 0));
            Due.is("twice of " + i + " then", 0, x.twice(0, s, 0));
            Due.is("its last gate", 0, x.twice(0, s, 2));
            Due.yes("its last time", x.time(0, s, 2) > x.time(0, s, 1));
        }
    }
}
