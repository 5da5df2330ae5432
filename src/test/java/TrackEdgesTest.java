/** The boundary cases of promises 1, 2, 3, 7, 8, 9, 10: a new object, the track and its ice. */
public final class TrackEdgesTest {
    private static final int LEAST = Integer.MIN_VALUE;
    private static final int MOST = Integer.MAX_VALUE;

    public static void main(String[] args) {
        newHasNoTrack();
        newHasNoSleds();
        newHasNoLaws();
        newRowsAreMissing();
        newHasNoRace();
        newTapeIsEmpty();
        everySizeOfTrack();
        trackRefusals();
        trackAnewHasNewCells();
        trackAnewHasWholeEyes();
        trackLeavesTheRest();
        trackBehindARace();
        bendBounds();
        bendRefusals();
        bendChangesOneCell();
        bendWhereNoRunGoesOn();
        weatherBounds();
        weatherRefusals();
        hardnessFromNought();
        hardnessToAThousand();
        everyMinuteCounts();
        warmthAgainstSun();
        waterBounds();
        waterRefusals();
        waterLeavesNoHardnessBelowNought();
        cellRefusals();
        standardWithoutTrack();
        standardCutsEach();
        timeIsOneAtLeast();
        standardByGlideEdges();
        Due.done();
    }

    private static IceRun track(int n, int g) {
        IceRun x = new IceRun();
        Due.yes("track(" + n + ", " + g + ")", x.track(n, g));
        return x;
    }

    private static void newHasNoTrack() {
        Due.said("1: No TRACK");
        IceRun x = new IceRun();
        Due.is("count(0)", 0, x.count(0));
        Due.is("count(1)", 0, x.count(1));
        Due.is("cell(0, 0)", -1, x.cell(0, 0));
        Due.is("cell(0, 3)", -1, x.cell(0, 3));
        Due.is("standard()", 0, x.standard());
        Due.no("bend", x.bend(0, 200, 0, 0));
        Due.no("weather", x.weather(1, 0, 0));
        Due.no("water", x.water(0, 1));
        Due.no("eye", x.eye(1, 0, 0));
        Due.no("race", x.race());
    }

    private static void newHasNoSleds() {
        Due.said("1: No SLEDS");
        IceRun x = new IceRun();
        Due.is("count(2)", 0, x.count(2));
        Due.is("points(0, 0)", -1, x.points(0, 0));
        Due.is("the first sled", 0, x.sled(0, 100, 0, 0));
    }

    private static void newHasNoLaws() {
        Due.said("1: No LAWS (without one: weight 200, warm 100, reverse 0, cut 16, runs 4, keep)");
        IceRun x = new IceRun();
        int[] due = {200, 100, 0, 16, 4, 0};
        for (int what = 0; what < due.length; what++) {
            Due.is("law(" + what + ")", due[what], x.law(what));
        }
        Due.is("place()", -1, x.place());
    }

    private static void newRowsAreMissing() {
        Due.said("1: all ROWS missing");
        IceRun x = new IceRun();
        for (int kind = 0; kind < 4; kind++) {
            Due.is("copy of " + kind, -2, x.copy(kind, 0, kind, 0, 0));
            for (int h = 0; h <= 1000; h += 125) {
                Due.is("glide(" + kind + ", " + h + ")", 0, Due.glide(x, kind, h));
            }
        }
    }

    private static void newHasNoRace() {
        Due.said("1: no RACE");
        IceRun x = new IceRun();
        int[] due = {0, 0, -1, 0, 0, 0, 0};
        for (int what = 4; what < 11; what++) {
            Due.is("count(" + what + ")", due[what - 4], x.count(what));
        }
        Due.is("begin", -1, x.begin(0));
        Due.is("start", -1, x.start());
        Due.is("shut", -1, x.shut());
        Due.is("close", -1, x.close());
        Due.is("order", -1, x.order(0));
    }

    private static void newTapeIsEmpty() {
        Due.said("1: an empty tape");
        IceRun x = new IceRun();
        Due.is("count(3)", 0, x.count(3));
        Due.is("end(1)", -1, x.end(1));
        Due.is("end(0)", 0, x.end(0));
        Due.is("laws()", 0, x.laws());
    }

    /** The gates are seen by a sled's times: every cell takes another time, its BEND and 50. */
    private static void everySizeOfTrack() {
        Due.said("2: n CELLS and g GATES, ahead of CELLS k * n / (g - 1) (cut)");
        for (int n = 5; n <= 40; n++) {
            for (int g = 2; g <= 6; g++) {
                IceRun x = track(n, g);
                Due.is("count(0) of " + n, n, x.count(0));
                Due.is("count(1) of " + g, g, x.count(1));
                Due.is("the last cell of " + n, 200, x.cell(n - 1, 0));
                Due.is("no cell " + n, -1, x.cell(n, 0));
                for (int c = 0; c < n; c++) {
                    x.bend(c, 60 + 11 * c, 0, 0);
                }
                x.sled(0, 100, 0, 5);
                x.race();
                x.begin(0);
                x.start();
                gateTimes(x, n, g);
            }
        }
    }

    private static void gateTimes(IceRun x, int n, int g) {
        for (int gate = 0; gate < g; gate++) {
            int ahead = gate == g - 1 ? n : gate * n / (g - 1);
            int due = 0;
            for (int c = 0; c < ahead; c++) {
                due += 60 + 11 * c + 50;
            }
            Due.is("gate " + gate + " of " + g + " on " + n + " cells", due, x.time(0, 0, gate));
        }
        Due.is("no gate " + g, -1, x.time(0, 0, g));
    }

    private static void trackRefusals() {
        Due.said("2: False: other numbers");
        int[][] wrong = {{4, 2}, {41, 2}, {4, 6}, {41, 6}, {5, 1}, {5, 7}, {40, 1}, {40, 7}, {0, 0}, {-5, 2}, {5, -2}, {LEAST, 2}, {MOST, 2},
            {5, LEAST}, {5, MOST}};
        for (int[] w : wrong) {
            Twins.no("track(" + w[0] + ", " + w[1] + ")", x -> Twins.bit(x.track(w[0], w[1])), States.FRESH, States.TRACKED, States.CLOSED);
        }
        Due.said("2: False: there is a RACE");
        Twins.no("track(5, 2)", x -> Twins.bit(x.track(5, 2)), States.IN_RACE);
        Twins.no("track(40, 6)", x -> Twins.bit(x.track(40, 6)), States.IN_RACE);
        Twins.no("track(11, 5)", x -> Twins.bit(x.track(11, 5)), States.IN_RACE);
    }

    private static void wearOut(IceRun x, int n) {
        for (int c = 0; c < n; c++) {
            x.bend(c, 333, 7, 8);
        }
        x.weather(600, 30, 3);
        x.sled(0, 200, 0, 0);
        x.race();
        x.begin(0);
        x.start();
        x.close();
        Due.is("worn hardness", 0, x.cell(n - 1, 3));
        Due.is("worn rut", 4, x.cell(n - 1, 4));
    }

    private static void newCells(IceRun x, int n) {
        int[] due = {200, 0, 0, 500, 0};
        for (int c = 0; c < n; c++) {
            for (int what = 0; what < 5; what++) {
                Due.is("cell(" + c + ", " + what + ") of " + n, due[what], x.cell(c, what));
            }
        }
        Due.is("cell(" + n + ", 0)", -1, x.cell(n, 0));
    }

    private static void trackAnewHasNewCells() {
        Due.said("2: made anew, each CELL with BEND 200, SHARP 0, SUN 0 (HARDNESS 500 at first, RUT 0 at first)");
        IceRun x = track(40, 2);
        wearOut(x, 40);
        x.track(40, 2);
        newCells(x, 40);
        x = track(40, 2);
        wearOut(x, 40);
        x.track(5, 2);
        newCells(x, 5);
        x.track(40, 2);
        newCells(x, 40);
    }

    private static void trackAnewHasWholeEyes() {
        Due.said("2: all EYES whole, ERRORS 0");
        for (int between = 2; between <= 6; between++) {
            IceRun x = track(10, 6);
            for (int gate = 1; gate < 6; gate++) {
                x.eye(gate, 0, gate % 2 == 0 ? 100 : 9);
                x.eye(gate, 1, 100);
            }
            x.track(7, between);
            x.track(10, 6);
            x.sled(0, 100, 0, 5);
            x.race();
            x.begin(0);
            x.start();
            for (int gate = 1; gate < 6; gate++) {
                Due.is("time at gate " + gate, 500 * gate, x.time(0, 0, gate));
            }
            for (int gate = 1; gate < 6; gate++) {
                x.eye(gate, 0, 100);
            }
            x.begin(0);
            x.start();
            for (int gate = 1; gate < 6; gate++) {
                Due.is("time by eye 1 of gate " + gate, 508 * gate, x.time(1, 0, gate));
            }
        }
    }

    private static void trackLeavesTheRest() {
        Due.said("2: the TRACK is made anew (and nothing else)");
        IceRun x = States.CLOSED.make();
        IceRun y = States.CLOSED.make();
        Due.yes("track", x.track(8, 3));
        int[] others = {2, 3, 4, 5, 6, 7, 8, 9, 10};
        for (int what : others) {
            Due.is("count(" + what + ")", y.count(what), x.count(what));
        }
        for (int i = 0; i < 6; i++) {
            Due.is("law(" + i + ")", y.law(i), x.law(i));
            Due.is("points(0, " + i + ")", y.points(0, i), x.points(0, i));
        }
        for (int kind = 0; kind < 4; kind++) {
            Due.is("glide of " + kind, Due.glide(y, kind, 130), Due.glide(x, kind, 130));
        }
        Due.is("place", y.place(), x.place());
        Due.is("the tape", y.laws(), x.laws());
        Due.is("a law of it", y.law(1), x.law(1));
    }

    private static void trackBehindARace() {
        Due.said("2: there is no RACE then");
        IceRun x = States.CLOSED.make();
        Due.yes("track behind close", x.track(5, 6));
        newCells(x, 5);
        Due.is("gates", 6, x.count(1));
    }

    private static void bendBounds() {
        Due.said("3: BEND (50 to 500), SHARP (0 to 9), SUN (0 to 9) of a CELL (0 to n - 1)");
        int[] sizes = {5, 40};
        for (int n : sizes) {
            IceRun x = track(n, 2);
            int[][] right = {{0, 50, 0, 0}, {0, 500, 0, 0}, {0, 50, 9, 0}, {0, 50, 0, 9}, {n - 1, 50, 0, 0}, {n - 1, 500, 9, 9}};
            for (int[] r : right) {
                Due.yes("bend(" + r[0] + ", " + r[1] + ", " + r[2] + ", " + r[3] + ")", x.bend(r[0], r[1], r[2], r[3]));
                for (int what = 0; what < 3; what++) {
                    Due.is("cell(" + r[0] + ", " + what + ")", r[what + 1], x.cell(r[0], what));
                }
            }
        }
    }

    private static void bendRefusals() {
        Due.said("3: False: other numbers");
        int[][] wrong = {{1, 49, 1, 1}, {1, 501, 1, 1}, {1, 100, -1, 1}, {1, 100, 10, 1}, {1, 100, 1, -1}, {1, 100, 1, 10}, {1, LEAST, 1, 1},
            {1, MOST, 1, 1}, {1, 100, LEAST, 1}, {1, 100, MOST, 1}, {1, 100, 1, LEAST}, {1, 100, 1, MOST}};
        for (int[] w : wrong) {
            refusedBend(w, States.TRACKED, States.WHOLE);
        }
        Due.said("3: False: no such CELL");
        int[][] nowhere = {{-1, 100, 1, 1}, {11, 100, 1, 1}, {LEAST, 100, 1, 1}, {MOST, 100, 1, 1}};
        for (int[] w : nowhere) {
            refusedBend(w, States.FRESH, States.TRACKED, States.WHOLE);
        }
        refusedBend(new int[]{0, 100, 1, 1}, States.FRESH);
        Due.said("3: False: a RUN goes on");
        refusedBend(new int[]{0, 100, 1, 1}, States.IN_RUN);
        refusedBend(new int[]{10, 500, 9, 9}, States.IN_RUN);
    }

    private static void refusedBend(int[] w, States... states) {
        Twins.no("bend(" + w[0] + ", " + w[1] + ", " + w[2] + ", " + w[3] + ")", x -> Twins.bit(x.bend(w[0], w[1], w[2], w[3])), states);
    }

    private static void bendChangesOneCell() {
        Due.said("3: BEND, SHARP, SUN of a CELL");
        IceRun x = States.CLOSED.make();
        IceRun y = States.CLOSED.make();
        x.bend(5, 77, 8, 7);
        for (int c = 0; c < 11; c++) {
            for (int what = 0; what < 5; what++) {
                int due = c == 5 && what < 3 ? new int[]{77, 8, 7}[what] : y.cell(c, what);
                Due.is("cell(" + c + ", " + what + ")", due, x.cell(c, what));
            }
        }
    }

    private static void bendWhereNoRunGoesOn() {
        Due.said("3: (taken where no RUN goes on)");
        States[] states = {States.TRACKED, States.RACED, States.EMPTY_RACE, States.WHOLE, States.SHUT, States.SHUT_FIRST, States.DONE,
            States.CLOSED};
        for (States state : states) {
            IceRun x = state.make();
            Due.yes("bend in " + state, x.bend(0, 99, 2, 3));
            Due.is("cell(0, 0) in " + state, 99, x.cell(0, 0));
        }
    }

    private static void weatherBounds() {
        Due.said("7: MINUTES (1 to 600), WARMTH (-30 to 30), LIGHT (0 to 3)");
        int[][] right = {{1, 0, 0, 500}, {600, 0, 0, 500}, {1, 30, 0, 470}, {1, -30, 0, 530}, {1, 0, 3, 473}, {1, 30, 3, 443},
            {1, -30, 3, 503}, {600, 30, 3, 0}, {600, -30, 0, 1000}, {600, -30, 3, 1000}};
        for (int[] r : right) {
            IceRun x = track(5, 2);
            x.bend(0, 200, 0, 9);
            Due.yes("weather(" + r[0] + ", " + r[1] + ", " + r[2] + ")", x.weather(r[0], r[1], r[2]));
            Due.is("hardness behind weather(" + r[0] + ", " + r[1] + ", " + r[2] + ")", r[3], x.cell(0, 3));
        }
        Due.said("7: (no TRACK alone refuses it: a RUN may go on)");
        for (States state : States.WITH_TRACK) {
            IceRun x = state.make();
            int was = x.cell(3, 3);
            Due.yes("weather in " + state, x.weather(2, -4, 0));
            Due.is("hardness in " + state, was + 8, x.cell(3, 3));
        }
    }

    private static void weatherRefusals() {
        Due.said("7: False: other numbers");
        int[][] wrong = {{0, 1, 1}, {601, 1, 1}, {-1, 1, 1}, {1, -31, 1}, {1, 31, 1}, {1, 1, -1}, {1, 1, 4}, {LEAST, 1, 1}, {MOST, 1, 1},
            {1, LEAST, 1}, {1, MOST, 1}, {1, 1, LEAST}, {1, 1, MOST}};
        for (int[] w : wrong) {
            Twins.no("weather(" + w[0] + ", " + w[1] + ", " + w[2] + ")", x -> Twins.bit(x.weather(w[0], w[1], w[2])), States.TRACKED,
                    States.RUNNING);
        }
        Due.said("7: False: no TRACK");
        Twins.no("weather(1, 1, 1)", x -> Twins.bit(x.weather(1, 1, 1)), States.FRESH);
        Twins.no("weather(1, 0, 0)", x -> Twins.bit(x.weather(1, 0, 0)), States.FRESH);
    }

    private static int hardnessBehind(int minutes, int warmth) {
        IceRun x = track(5, 2);
        x.weather(minutes, warmth, 0);
        return x.cell(4, 3);
    }

    private static void hardnessFromNought() {
        Due.said("Terms: HARDNESS is less by w + SUN * l, from 0 (to 1000)");
        Due.is("499 less", 1, hardnessBehind(499, 1));
        Due.is("500 less", 0, hardnessBehind(500, 1));
        Due.is("501 less", 0, hardnessBehind(501, 1));
        Due.is("18000 less", 0, hardnessBehind(600, 30));
        IceRun x = track(5, 2);
        x.weather(600, 30, 0);
        x.weather(1, -1, 0);
        Due.is("1 more than 0", 1, x.cell(4, 3));
    }

    private static void hardnessToAThousand() {
        Due.said("Terms: HARDNESS is less by w + SUN * l, (from 0) to 1000");
        Due.is("499 more", 999, hardnessBehind(499, -1));
        Due.is("500 more", 1000, hardnessBehind(500, -1));
        Due.is("501 more", 1000, hardnessBehind(501, -1));
        Due.is("18000 more", 1000, hardnessBehind(600, -30));
        IceRun x = track(5, 2);
        x.weather(600, -30, 0);
        x.weather(1, 1, 0);
        Due.is("1 less than 1000", 999, x.cell(4, 3));
    }

    private static void everyMinuteCounts() {
        Due.said("7: So many MINUTES");
        IceRun x = track(5, 2);
        x.weather(600, -30, 0);
        Due.yes("600 minutes", x.weather(600, 1, 0));
        Due.is("600 less", 400, x.cell(0, 3));
        Due.yes("1 minute", x.weather(1, 1, 0));
        Due.is("1 less", 399, x.cell(0, 3));
    }

    private static void warmthAgainstSun() {
        Due.said("Terms: each CELL's HARDNESS is less by w + SUN * l");
        IceRun x = track(10, 2);
        for (int c = 0; c < 10; c++) {
            x.bend(c, 200, 0, c);
        }
        x.weather(10, -9, 2);
        for (int c = 0; c < 10; c++) {
            Due.is("in the sun of " + c, 500 - 10 * (2 * c - 9), x.cell(c, 3));
        }
        x.weather(600, -27, 3);
        Due.is("as cold as the sun is warm", 410, x.cell(9, 3));
        Due.is("colder", 1000, x.cell(8, 3));
    }

    private static void waterBounds() {
        Due.said("8: WATER on CELLS a to b - 1 (a below b, both 0 to n)");
        int[][] right = {{0, 1}, {4, 5}, {0, 5}, {0, 4}, {1, 5}, {2, 3}};
        for (int[] r : right) {
            IceRun x = track(5, 2);
            x.sled(0, 64, 0, 5);
            x.race();
            x.begin(0);
            x.start();
            Due.yes("water(" + r[0] + ", " + r[1] + ")", x.water(r[0], r[1]));
            for (int c = 0; c < 5; c++) {
                boolean wet = c >= r[0] && c < r[1];
                Due.is("rut of " + c, wet ? 0 : 2, x.cell(c, 4));
                Due.is("hardness of " + c, wet ? 398 : 498, x.cell(c, 3));
            }
        }
        IceRun x = track(40, 2);
        Due.yes("water on all 40", x.water(0, 40));
        Due.yes("water on the last", x.water(39, 40));
        Due.is("the last", 300, x.cell(39, 3));
        Due.is("the one ahead of it", 400, x.cell(38, 3));
        for (States state : States.WITH_TRACK) {
            Due.yes("water in " + state, state.make().water(0, 5));
        }
    }

    private static void waterRefusals() {
        Due.said("8: False: no such CELLS (a below b, both 0 to n)");
        int[][] wrong = {{-1, 1}, {-1, 11}, {0, 12}, {10, 12}, {11, 12}, {0, 0}, {5, 5}, {11, 11}, {6, 5}, {11, 0}, {LEAST, 1}, {LEAST, MOST}, {0, MOST},
            {MOST, LEAST}, {-2, -1}, {MOST, MOST}, {LEAST, LEAST}};
        for (int[] w : wrong) {
            Twins.no("water(" + w[0] + ", " + w[1] + ")", x -> Twins.bit(x.water(w[0], w[1])), States.FRESH, States.TRACKED, States.RUNNING);
        }
        Due.said("8: False: no TRACK");
        Twins.no("water(0, 1)", x -> Twins.bit(x.water(0, 1)), States.FRESH);
        Twins.no("water(0, 0)", x -> Twins.bit(x.water(0, 0)), States.FRESH);
    }

    private static void waterLeavesNoHardnessBelowNought() {
        Due.said("Terms: WATER: HARDNESS less by 100 (0 at least)");
        int[][] due = {{101, 1}, {100, 0}, {99, 0}, {1, 0}, {0, 0}};
        for (int[] d : due) {
            IceRun x = track(5, 2);
            x.weather(500 - d[0], 1, 0);
            Due.is("ahead", d[0], x.cell(0, 3));
            x.water(0, 1);
            Due.is("water on " + d[0], d[1], x.cell(0, 3));
            x.weather(1, -1, 0);
            Due.is("one more behind it", d[1] + 1, x.cell(0, 3));
        }
        IceRun x = track(5, 2);
        x.weather(600, -30, 0);
        x.water(0, 1);
        Due.is("water on 1000", 900, x.cell(0, 3));
    }

    private static void cellRefusals() {
        Due.said("9: NONE for others");
        int[][] others = {{-1, 0}, {11, 0}, {0, -1}, {0, 5}, {10, 5}, {-1, -1}, {11, 5}, {LEAST, 0}, {MOST, 0}, {0, LEAST}, {0, MOST}};
        for (int[] o : others) {
            Twins.none("cell(" + o[0] + ", " + o[1] + ")", x -> x.cell(o[0], o[1]), States.FRESH, States.TRACKED, States.RUNNING);
        }
        for (int what = 0; what < 5; what++) {
            int w = what;
            Twins.none("cell(0, " + w + ")", x -> x.cell(0, w), States.FRESH);
            Twins.changesNothing("cell(10, " + w + ")", x -> x.cell(10, w), States.TRACKED, States.RUNNING);
        }
    }

    private static void standardWithoutTrack() {
        Due.said("10: STANDARD (0 without a TRACK)");
        Twins.refused("standard()", 0, x -> x.standard(), States.FRESH);
        IceRun x = new IceRun();
        x.runners(0, 2, 9, 100, 0);
        x.sled(0, 100, 0, 5);
        Due.is("with rows and sleds", 0, x.standard());
        Due.said("Terms: STANDARD: it wears nothing");
        Twins.changesNothing("standard()", y -> y.standard(), States.ALL);
    }

    private static IceRun ofHardness(int hardness) {
        IceRun x = track(5, 2);
        for (int left = hardness - 500; left != 0; left = hardness - x.cell(0, 3)) {
            x.weather(Math.min(600, Math.abs(left)), left > 0 ? -1 : 1, 0);
        }
        return x;
    }

    private static void standardCutsEach() {
        Due.said("Terms: (1000 - HARDNESS) / 8 (cut)");
        int[][] due = {{1000, 0}, {993, 0}, {992, 1}, {985, 1}, {984, 2}, {8, 124}, {1, 124}, {0, 125}};
        for (int[] d : due) {
            Due.is("standard at " + d[0], 5 * (200 + d[1] - 12), ofHardness(d[0]).standard());
        }
        Due.said("Terms: STANDARD: for WEIGHT 100, KIND 0, SKILL 5: (9 - SKILL) * SHARP");
        IceRun x = track(5, 2);
        x.bend(0, 200, 9, 0);
        Due.is("sharpest", 1250 + 36, x.standard());
        x.bend(0, 200, 1, 0);
        Due.is("hardly sharp", 1250 + 4, x.standard());
        x.bend(0, 500, 0, 9);
        Due.is("longest", 1250 + 300, x.standard());
    }

    private static void timeIsOneAtLeast() {
        Due.said("Terms: TIME of a SLED in a CELL: at least 1");
        // At HARDNESS 1000 a CELL of BEND 50 takes 50 - 12 and the GLIDE.
        int[][] due = {{-35, 3}, {-36, 2}, {-37, 1}, {-38, 1}, {-39, 1}, {-200, 1}};
        for (int[] d : due) {
            IceRun x = ofHardness(1000);
            for (int c = 0; c < 5; c++) {
                x.bend(c, 50, 0, 0);
            }
            x.runners(0, 2, 9, d[0], 0);
            Due.is("standard by " + d[0], 5 * d[1], x.standard());
            x.sled(0, 100, 0, 5);
            x.race();
            x.begin(0);
            Due.is("total by " + d[0], 5 * d[1], x.start());
        }
    }

    private static void standardByGlideEdges() {
        Due.said("Terms: GLIDE of KIND 0 at the CELL's HARDNESS");
        int[][] due = {{0, 1, 125}, {124, 1, 109}, {125, 2, 109}, {249, 2, 93}, {250, 3, 93}, {875, 8, 15}, {999, 8, 0}, {1000, 9, 0}};
        for (int[] d : due) {
            IceRun x = ofHardness(d[0]);
            x.runners(0, 2, 9, 1, 1);
            Due.is("standard at " + d[0], 5 * (200 + d[2] + d[1] - 12), x.standard());
            x.runners(1, 2, 9, 50, 50);
            x.runners(0, 3, 0, 0, 0);
            Due.is("standard at " + d[0] + " without a row", 5 * (200 + d[2] - 12), x.standard());
        }
    }
}
