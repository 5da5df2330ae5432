/** The document's words from promise 1 to promise 17, each with its check. */
final class PromisesSaid {
    private static final int NONE = IceRun.NONE;

    private PromisesSaid() {
    }

    static void all() {
        aNewObject();
        track();
        bend();
        runners();
        copy();
        glide();
        weather();
        water();
        cell();
        standard();
        eye();
        sled();
        feed();
        end();
        laws();
        place();
        law();
    }

    private static void aNewObject() {
        Document.names("Promise 1: A new object `IceRun()`:");
        Document.says("No TRACK, SLEDS, LAWS;");
        IceRun x = new IceRun();
        Due.is("cells", 0, x.count(0));
        Due.is("gates", 0, x.count(1));
        Due.is("a cell", NONE, x.cell(0, 0));
        Due.no("a race on it", x.race());
        Due.is("sleds", 0, x.count(2));
        Due.is("points of one", NONE, x.points(0, 0));
        int[] usual = {200, 100, 0, 16, 4, 0};
        for (int what = 0; what < 6; what++) {
            Due.is("law " + what, usual[what], x.law(what));
        }
        Due.is("a fault", NONE, x.place());

        Document.says("all ROWS missing, no RACE, an empty tape.");
        for (int kind = 0; kind < 4; kind++) {
            Due.is("row " + kind, -2, x.copy(kind, 0, kind, 0, 0));
        }
        Due.is("a race", 0, x.count(4));
        Due.is("races closed", 0, x.count(9));
        Due.is("bytes", 0, x.count(3));
        IceRun other = Fixtures.begun(9, 3);
        Due.feed(other, "share;");
        other.start();
        for (int what = 0; what < 11; what++) {
            Due.is("count " + what + " with another object in use", what == 6 ? NONE : 0, x.count(what));
        }
    }

    private static void track() {
        Document.names("Promise 2: track `boolean track(int n, int g)`:");
        Document.says("The TRACK is made anew, of n CELLS and g GATES, each CELL with BEND 200, SHARP 0, SUN 0;");
        IceRun x = Fixtures.begun(12, 4);
        x.start();
        x.bend(3, 300, 4, 5);
        x.bend(11, 300, 4, 5);
        x.weather(7, 3, 1);
        x.close();
        Fixtures.breakEyes(x, 1);
        x.eye(2, 0, 9);
        x.eye(3, 1, -9);
        Due.yes("anew", x.track(7, 4));
        Due.is("cells", 7, x.count(0));
        Due.is("gates", 4, x.count(1));
        int[] fresh = {200, 0, 0, 500, 0};
        for (int c = 0; c < 7; c++) {
            for (int what = 0; what < 5; what++) {
                Due.is("cell " + c + " " + what, fresh[what], x.cell(c, what));
            }
        }
        Due.is("no eighth", NONE, x.cell(7, 0));

        Document.says("GATES but the first and last ahead of CELLS k * n / (g - 1) (cut), all EYES whole, ERRORS 0.");
        x.race();
        x.begin(0);
        x.start();
        // Ahead of the cells 7 / 3 = 2 and 14 / 3 = 4.
        int[] cells = {0, 2, 4, 7};
        for (int gate = 0; gate < 4; gate++) {
            Due.is("gate " + gate, 250 * cells[gate], x.time(0, 0, gate));
            Due.is("eyes of gate " + gate, 0, x.twice(0, 0, gate));
        }

        Document.says("False: other numbers, there is a RACE.");
        int[][] others = {{4, 3}, {41, 3}, {7, 1}, {7, 7}, {-7, 3}, {7, -3}, {0, 0}, {Integer.MAX_VALUE, 3}, {7, Integer.MIN_VALUE}};
        for (int[] o : others) {
            Twins.no("track " + o[0] + " " + o[1], y -> Twins.bit(y.track(o[0], o[1])), States.ALL);
        }
        Twins.no("track(9, 3)", y -> Twins.bit(y.track(9, 3)), States.IN_RACE);
        for (States state : States.OUT_OF_RACE) {
            Due.yes("track(9, 3) in " + state, state.make().track(9, 3));
        }
    }

    private static void bend() {
        Document.names("Promise 3: bend `boolean bend(int c, int v, int sharp, int sun)`:");
        Document.says("BEND, SHARP, SUN of a CELL.");
        IceRun x = Fixtures.tracked(5, 2);
        Due.yes("bend", x.bend(2, 333, 4, 5));
        int[] told = {333, 4, 5, 500, 0};
        int[] others = {200, 0, 0, 500, 0};
        for (int c = 0; c < 5; c++) {
            for (int what = 0; what < 5; what++) {
                Due.is("cell " + c + " " + what, c == 2 ? told[what] : others[what], x.cell(c, what));
            }
        }

        Document.says("False: other numbers, no such CELL, a RUN goes on.");
        int[][] wrong = {{0, 49, 0, 0}, {0, 501, 0, 0}, {0, 100, -1, 0}, {0, 100, 10, 0}, {0, 100, 0, -1}, {0, 100, 0, 10},
            {-1, 100, 0, 0}, {40, 100, 0, 0}, {Integer.MAX_VALUE, 100, 0, 0}};
        for (int[] w : wrong) {
            Twins.no("bend " + w[0] + " " + w[1] + " " + w[2] + " " + w[3], y -> Twins.bit(y.bend(w[0], w[1], w[2], w[3])), States.ALL);
        }
        Due.no("one behind the last", x.bend(5, 100, 0, 0));
        Twins.no("bend without a track", y -> Twins.bit(y.bend(0, 100, 0, 0)), States.FRESH);
        Twins.no("bend in a run", y -> Twins.bit(y.bend(0, 100, 0, 0)), States.IN_RUN);
        for (States state : States.OUT_OF_RUN) {
            Due.is("bend in " + state, state == States.FRESH ? 0 : 1, Twins.bit(state.make().bend(0, 100, 0, 0)));
        }
    }

    private static void rowIs(IceRun x, int kind, int... due) {
        for (int i = 0; i < 9; i++) {
            Due.is("entry " + i + " of " + kind, i < due.length ? due[i] : 0, Due.glide(x, kind, 125 * i));
        }
    }

    private static void runners() {
        Document.names("Promise 4: runners `boolean runners(int kind, int sort, int n, int f, int step)`:");
        Document.says("The ROW of a KIND is made of a sort, with n entries f, f + step, .. (as ints go; cut to its sort).");
        IceRun x = new IceRun();
        Due.yes("bytes", x.runners(0, 0, 4, 100, 50));
        rowIs(x, 0, 100, -106, -56, -6);
        Due.yes("shorts", x.runners(1, 1, 4, 65500, 20));
        rowIs(x, 1, -36, -16, 4, 24);
        Due.yes("ints", x.runners(2, 2, 3, 65500, -65400));
        rowIs(x, 2, 200, 100, -200);
        Due.yes("as ints go", x.runners(3, 2, 4, Integer.MAX_VALUE - 1, 1));
        rowIs(x, 3, 200, 200, -200, -200);
        Due.yes("as ints go, cut", x.runners(3, 0, 9, Integer.MAX_VALUE, 3));
        rowIs(x, 3, -1, 2, 5, 8, 11, 14, 17, 20, 23);
        Due.yes("in place of the former", x.runners(3, 1, 1, 7, 0));
        rowIs(x, 3, 7);
        Due.yes("missing", x.runners(3, 3, 1, 7, 0));
        rowIs(x, 3);

        Document.says("False: no such KIND, sort, n above 9 or (but of sort 3) below 0.");
        int[][] wrong = {{-1, 0, 1}, {4, 0, 1}, {1, -1, 1}, {1, 4, 1}, {1, 0, 10}, {1, 1, 10}, {1, 2, 10}, {1, 3, 10}, {1, 0, -1},
            {1, 1, -1}, {1, 2, -1}, {1, 2, Integer.MAX_VALUE}, {1, 2, Integer.MIN_VALUE}};
        for (int[] w : wrong) {
            Twins.no("runners " + w[0] + " " + w[1] + " " + w[2], y -> Twins.bit(y.runners(w[0], w[1], w[2], 9, 9)), States.ALL);
        }
        Due.yes("of sort 3 below 0", x.runners(1, 3, -1, 0, 0));
        Due.yes("of sort 3 far below 0", x.runners(1, 3, Integer.MIN_VALUE, 0, 0));
    }

    private static IceRun rows() {
        IceRun x = new IceRun();
        x.runners(0, 0, 3, 1, 1);
        x.runners(1, 0, 5, 10, 1);
        x.runners(2, 1, 2, 20, 1);
        return x;
    }

    private static void copy() {
        Document.names("Promise 5: copy `int copy(int from, int at, int to, int where, int n)`:");
        Document.says("n entries of a KIND's ROW, from one on, are copied into another one's, from to on: n;");
        IceRun x = rows();
        Due.is("two", 2, x.copy(0, 1, 1, 2, 2));
        rowIs(x, 0, 1, 2, 3);
        rowIs(x, 1, 10, 11, 2, 3, 14);
        Due.is("none", 0, x.copy(0, 3, 1, 5, 0));
        Due.is("all", 3, x.copy(0, 0, 1, 0, 3));
        rowIs(x, 1, 1, 2, 3, 3, 14);
        Due.is("onto itself, up", 4, x.copy(1, 0, 1, 1, 4));
        rowIs(x, 1, 1, 1, 2, 3, 3);
        Due.is("onto itself, down", 4, x.copy(1, 1, 1, 0, 4));
        rowIs(x, 1, 1, 2, 3, 3, 3);

        Document.says("NONE: no such KINDS;");
        copyIs(NONE, new int[][] {{-1, 0, 0, 0, 1}, {4, 0, 0, 0, 1}, {0, 0, -1, 0, 1}, {0, 0, 4, 0, 1}, {4, 0, 3, 0, 1}});
        Document.says("-2: a ROW is missing;");
        copyIs(-2, new int[][] {{3, 0, 0, 0, 1}, {0, 0, 3, 0, 1}, {3, 0, 3, 0, 0}, {3, 9, 0, 9, -1}});
        Document.says("-3: unlike sorts;");
        copyIs(-3, new int[][] {{0, 0, 2, 0, 1}, {2, 0, 1, 0, 0}, {0, 9, 2, 9, -1}});
        Document.says("-4: beyond either ROW, n below 0.");
        copyIs(-4, new int[][] {{0, -1, 1, 0, 1}, {0, 0, 1, -1, 1}, {0, 1, 1, 0, 3}, {1, 0, 0, 1, 3}, {0, 4, 1, 0, 0}, {0, 0, 1, 6, 0},
            {0, 0, 1, 0, -1}, {0, 0, 1, 0, Integer.MIN_VALUE}, {0, 1, 1, 1, Integer.MAX_VALUE}, {0, Integer.MAX_VALUE, 1, 0, 1}});
    }

    private static void copyIs(int due, int[][] calls) {
        for (int[] c : calls) {
            IceRun x = rows();
            Due.is("copy " + c[0] + " " + c[1] + " " + c[2] + " " + c[3] + " " + c[4], due, x.copy(c[0], c[1], c[2], c[3], c[4]));
            rowIs(x, 0, 1, 2, 3);
            rowIs(x, 1, 10, 11, 12, 13, 14);
            rowIs(x, 2, 20, 21);
        }
    }

    private static void glide() {
        Document.names("Promise 6: glide `int glide(int kind, int hardness) throws NoSuchElementException`:");
        Document.says("GLIDE of a KIND at a HARDNESS.");
        IceRun x = rows();
        Due.is("of kind 1 at 374", 12, Due.glide(x, 1, 374));
        Due.is("of kind 1 at 375", 13, Due.glide(x, 1, 375));
        Due.is("of kind 2 at 0", 20, Due.glide(x, 2, 0));
        Due.is("of kind 3 at 1000", 0, Due.glide(x, 3, 1000));

        Document.says("NoSuchElementException: no such KIND, HARDNESS.");
        int[][] wrong = {{-1, 0}, {4, 0}, {0, -1}, {0, 1001}, {Integer.MIN_VALUE, 0}, {0, Integer.MAX_VALUE}};
        for (int[] w : wrong) {
            Twins.refused("glide " + w[0] + " " + w[1], Due.THROWN, y -> Due.glide(y, w[0], w[1]), States.ALL);
        }
    }

    private static void weather() {
        Document.names("Promise 7: weather `boolean weather(int minutes, int warmth, int light)`:");
        Document.says("So many MINUTES (1 to 600).");
        for (int minutes = 1; minutes <= 600; minutes++) {
            IceRun x = Fixtures.tracked(5, 2);
            x.bend(1, 200, 0, 1);
            Due.yes("minutes", x.weather(minutes, -1, 2));
            Due.is("in the shade behind " + minutes, Math.min(1000, 500 + minutes), x.cell(0, 3));
            Due.is("in the sun behind " + minutes, Math.max(0, 500 - minutes), x.cell(1, 3));
        }

        Document.says("False: other numbers, no TRACK.");
        int[][] wrong = {{0, 1, 1}, {601, 1, 1}, {-1, 1, 1}, {1, -31, 1}, {1, 31, 1}, {1, 1, -1}, {1, 1, 4}, {Integer.MIN_VALUE, 1, 1}};
        for (int[] w : wrong) {
            Twins.no("weather " + w[0] + " " + w[1] + " " + w[2], y -> Twins.bit(y.weather(w[0], w[1], w[2])), States.ALL);
        }
        Twins.no("weather without a track", y -> Twins.bit(y.weather(1, 1, 1)), States.FRESH);
        for (States state : States.WITH_TRACK) {
            Due.yes("weather in " + state, state.make().weather(1, 1, 1));
        }
    }

    private static void water() {
        Document.names("Promise 8: water `boolean water(int a, int b)`:");
        Document.says("WATER.");
        for (int a = 0; a < 6; a++) {
            for (int b = a + 1; b <= 6; b++) {
                watered(a, b);
            }
        }

        Document.says("False: no such CELLS (a below b, both 0 to n), no TRACK.");
        int[][] wrong = {{-1, 2}, {2, 2}, {3, 2}, {0, 41}, {41, 42}, {0, 0}, {Integer.MIN_VALUE, Integer.MAX_VALUE}};
        for (int[] w : wrong) {
            Twins.no("water " + w[0] + " " + w[1], y -> Twins.bit(y.water(w[0], w[1])), States.ALL);
        }
        Due.no("one beyond the last", Fixtures.tracked(6, 2).water(5, 7));
        Twins.no("water without a track", y -> Twins.bit(y.water(0, 1)), States.FRESH);
        for (States state : States.WITH_TRACK) {
            Due.yes("water in " + state, state.make().water(0, 5));
        }
    }

    private static void watered(int a, int b) {
        IceRun x = Fixtures.begun(6, 2);
        x.start();
        Due.yes("water " + a + " " + b, x.water(a, b));
        for (int c = 0; c < 6; c++) {
            boolean wet = c >= a && c < b;
            Due.is("rut of " + c, wet ? 0 : 2, x.cell(c, 4));
            Due.is("hardness of " + c, wet ? 398 : 498, x.cell(c, 3));
        }
    }

    private static void cell() {
        Document.names("Promise 9: cell `int cell(int c, int what)`:");
        Document.says("Of a CELL what 0 BEND, 1 SHARP, 2 SUN, 3 HARDNESS, 4 RUT.");
        IceRun x = Fixtures.begun(6, 2);
        x.start();
        x.bend(5, 345, 6, 7);
        int[] told = {345, 6, 7, 498, 2};
        for (int what = 0; what < 5; what++) {
            Due.is("cell 5 " + what, told[what], x.cell(5, what));
        }

        Document.says("NONE for others.");
        int[][] others = {{-1, 0}, {6, 0}, {0, -1}, {0, 5}, {Integer.MAX_VALUE, 0}, {0, Integer.MIN_VALUE}};
        for (int[] o : others) {
            Due.is("cell " + o[0] + " " + o[1], NONE, x.cell(o[0], o[1]));
        }
        Due.is("a cell without a track", NONE, new IceRun().cell(0, 0));
    }

    private static void standard() {
        Document.names("Promise 10: standard `int standard()`:");
        Document.says("STANDARD as the ice is (0 without a TRACK).");
        Due.is("without a track", 0, new IceRun().standard());
        IceRun x = Fixtures.begun(5, 2);
        Due.is("new ice", 1250, x.standard());
        x.start();
        Due.is("worn ice", 1250 + 5 * 4, x.standard());
        x.weather(3, 2, 0);
        Due.is("warm ice", 1250 + 5 * 4 + 5, x.standard());
    }

    private static void eye() {
        Document.names("Promise 11: eye `boolean eye(int gate, int k, int error)`:");
        Document.says("An EYE of a GATE has this ERROR, or (100) is BROKEN.");
        IceRun x = Fixtures.begun(10, 6);
        Due.yes("first eye", x.eye(1, 0, -50));
        Due.yes("second eye", x.eye(2, 1, 50));
        Due.yes("a broken one", x.eye(3, 0, 100));
        Due.yes("and the other", x.eye(3, 1, 11));
        Due.yes("a broken one", x.eye(4, 0, 100));
        Due.yes("and the other", x.eye(4, 1, 100));
        x.start();
        int[] times = {0, 450, 1000, 1511, NONE, 2500};
        int[] doubles = {0, 50, 50, 0, 0, 0};
        for (int gate = 0; gate < 6; gate++) {
            Due.is("time at " + gate, times[gate], x.time(0, 0, gate));
            Due.is("double at " + gate, doubles[gate], x.twice(0, 0, gate));
        }

        Document.says("False: other numbers, no such GATE but the first, no such EYE.");
        int[][] wrong = {{1, 0, -51}, {1, 0, 51}, {1, 0, 99}, {1, 0, 101}, {1, 0, -100}, {0, 0, 1}, {0, 1, 100}, {-1, 0, 1}, {6, 0, 1},
            {1, -1, 1}, {1, 2, 1}, {Integer.MAX_VALUE, 0, 1}, {1, Integer.MIN_VALUE, 1}};
        for (int[] w : wrong) {
            Twins.no("eye " + w[0] + " " + w[1] + " " + w[2], y -> Twins.bit(y.eye(w[0], w[1], w[2])), States.ALL);
        }
        for (int g = 2; g <= 6; g++) {
            Due.yes("the last of " + g, Fixtures.tracked(9, g).eye(g - 1, 1, 1));
            Due.no("behind the last of " + g, Fixtures.tracked(9, g).eye(g, 1, 1));
        }
    }

    private static void sled() {
        Document.names("Promise 12: sled `int sled(int team, int weight, int kind, int skill)`:");
        Document.says("A SLED: its number;");
        IceRun x = Fixtures.tracked(5, 2);
        x.bend(0, 200, 9, 0);
        x.runners(3, 2, 9, 30, 0);
        for (int s = 0; s < 16; s++) {
            Due.is("number", s, x.sled(s / 4, 56 + 8 * s, s % 2 == 0 ? 3 : 0, s % 10));
        }
        x.race();
        x.begin(77);
        for (int i = 0; i < 16; i++) {
            int s = x.order(i);
            int cells = 5 * (262 - 7 - s + (s % 2 == 0 ? 30 : 0));
            Due.is("total of " + s, cells + (9 - s % 10) * 9, x.start());
            Fixtures.mend(x);
        }

        Document.says("NONE: other numbers, 16 are there.");
        int[][] wrong = {{-1, 100, 0, 0}, {4, 100, 0, 0}, {0, 49, 0, 0}, {0, 201, 0, 0}, {0, 100, -1, 0}, {0, 100, 4, 0}, {0, 100, 0, -1},
            {0, 100, 0, 10}, {0, Integer.MAX_VALUE, 0, 0}};
        for (int[] w : wrong) {
            Twins.none("sled " + w[0] + " " + w[1] + " " + w[2] + " " + w[3], y -> y.sled(w[0], w[1], w[2], w[3]), States.ALL);
        }
        Twins.none("a seventeenth", y -> y.sled(0, 100, 0, 5), States.FULL);
    }

    private static void feed() {
        Document.names("Promise 13: feed `int feed(int a, int b, int c, int d, int e)`:");
        Document.says("Twenty bytes come behind the tape, of each number the highest first: how many it has;");
        IceRun x = new IceRun();
        Due.is("twenty", 20, x.feed(0x72756e73, 0x20333b63, 0x75742035, 0x3b776172, 0x6d203737));
        Due.is("forty", 40, x.feed(0x3b73683f, 0, 0, 0, 0));
        Due.is("bytes", 40, x.count(3));
        Due.is("a sign that is no token", 1, x.laws());
        Due.is("its word's place", 21, x.place());
        x.feed(0x72756e73, 0x20333b63, 0x75742035, 0x3b776172, 0x6d203737);
        x.feed(0x3b736861, 0x72653b20, 0x20202020, 0x20202020, 0x0a202020);
        Due.is("laws", 0, x.laws());
        int[] due = {200, 77, 0, 5, 3, 1};
        for (int what = 0; what < 6; what++) {
            Due.is("law " + what, due[what], x.law(what));
        }

        Document.says("NONE: there would be more than 300.");
        for (int i = 1; i <= 15; i++) {
            Due.is("feed " + i, 20 * i, x.feed(0, 0, 0, 0, 0));
        }
        Due.is("feed 16", NONE, x.feed(0, 0, 0, 0, 0));
        Due.is("bytes", 300, x.count(3));
        x.end(281);
        Due.is("behind 281", NONE, x.feed(0, 0, 0, 0, 0));
        x.end(280);
        Due.is("behind 280", 300, x.feed(0, 0, 0, 0, 0));
    }

    private static void end() {
        Document.names("Promise 14: end `int end(int n)`:");
        Document.says("The tape has its first n bytes alone: n;");
        IceRun x = new IceRun();
        Due.is("none of none", 0, x.end(0));
        x.feed(0x73686172, 0x653b3f3f, 0, 0, 0);
        Due.is("all", 20, x.end(20));
        Due.is("six", 6, x.end(6));
        Due.is("bytes", 6, x.count(3));
        x.feed(0x6b656570, 0x3b3f3f3f, 0, 0, 0);
        Due.is("eleven", 11, x.end(11));
        Due.is("laws", 0, x.laws());

        Document.says("NONE if it has less, or n is below 0.");
        for (States state : States.ALL) {
            int size = state.make().count(3);
            Twins.none("more than it has", y -> y.end(size + 1), state);
            Twins.none("below 0", y -> y.end(-1), state);
            Twins.none("far below 0", y -> y.end(Integer.MIN_VALUE), state);
        }
    }

    private static void laws() {
        Document.names("Promise 15: laws `int laws()`:");
        Document.says("The tape (empty then) is the LAWS, in place of those that are: 0;");
        IceRun x = new IceRun();
        Due.is("six laws", 0, Due.laws(x, "weight 111; warm 22; reverse 3; cut 4; runs 2; share;"));
        Due.is("empty then", 0, x.count(3));
        lawsAre(x, 111, 22, 3, 4, 2, 1);
        Due.is("in place of those", 0, Due.laws(x, "warm 33;"));
        lawsAre(x, 200, 33, 0, 16, 4, 0);

        Document.says("the FAULT, and LAWS stay;");
        Due.is("fault 1", 1, Due.laws(x, "weight 60; warm"));
        Due.is("empty then", 0, x.count(3));
        lawsAre(x, 200, 33, 0, 16, 4, 0);
        Due.is("fault 2", 2, Due.laws(x, "weight 60; warm 101;"));
        lawsAre(x, 200, 33, 0, 16, 4, 0);

        Document.says("NONE: a RUN goes on (the tape stays).");
        Twins.none("laws in a run", IceRun::laws, States.IN_RUN);
        x = Fixtures.begun(5, 2);
        Due.feed(x, "warm 44;");
        Due.is("a run goes on", NONE, x.laws());
        Due.is("the tape stays", 8, x.count(3));
        x.start();
        Due.is("behind it", 0, x.laws());
        Due.is("as it stayed", 44, x.law(1));
        for (States state : States.OUT_OF_RUN) {
            Due.yes("laws in " + state, state.make().laws() != NONE);
        }
    }

    private static void lawsAre(IceRun x, int... due) {
        for (int what = 0; what < due.length; what++) {
            Due.is("law " + what, due[what], x.law(what));
        }
    }

    private static void place() {
        Document.names("Promise 16: place `int place()`:");
        Document.says("The place of the FAULT of the latest laws() that was not NONE;");
        IceRun x = Fixtures.tracked(5, 2);
        x.sled(0, 100, 0, 5);
        Due.laws(x, "cut 5; cut 77;");
        Due.is("of fault 2", 11, x.place());
        Due.laws(x, "cut 5 5;");
        Due.is("of fault 1", 6, x.place());
        x.race();
        x.begin(0);
        x.laws();
        Due.is("that was NONE", 6, x.place());

        Document.says("NONE without.");
        x.start();
        x.laws();
        Due.is("without a fault", NONE, x.place());
        Due.is("without laws", NONE, new IceRun().place());
    }

    private static void law() {
        Document.names("Promise 17: law `int law(int what)`:");
        Document.says("What is in force: 0 weight, 1 warm, 2 reverse, 3 cut, 4 runs, 5 whether share (1, 0).");
        IceRun x = new IceRun();
        lawsAre(x, 200, 100, 0, 16, 4, 0);
        Due.laws(x, "share; runs 2; cut 4; reverse 3; warm 22; weight 111;");
        lawsAre(x, 111, 22, 3, 4, 2, 1);

        Document.says("NONE for others.");
        int[] others = {-1, 6, Integer.MIN_VALUE, Integer.MAX_VALUE};
        for (int what : others) {
            Due.is("law " + what, NONE, x.law(what));
        }
    }
}
