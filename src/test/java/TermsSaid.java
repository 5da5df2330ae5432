import java.lang.reflect.Method;
import java.lang.reflect.Modifier;

/** The document's words from its first line to the end of the first part of its terms, each with its check. */
final class TermsSaid {
    private static final int NONE = IceRun.NONE;

    private TermsSaid() {
    }

    static void all() throws ReflectiveOperationException {
        whatItIs();
        face();
        theTrack();
        theIce();
        theRunners();
        theSleds();
        theWear();
        theEyes();
    }

    private static void whatItIs() {
        Document.names("IceRun What it is A toboggan run and its races: ice by cells that sun and warmth soften and sleds wear, "
                + "times from gate to gate with eyes that err or fail, orders of start by laws told as a text, who is struck and "
                + "since when that is known, what of a time was the ice's, where time was lost bend by bend, points of a season. "
                + "==== 1.");
        Document.says("An object is used for at most 512 calls after it has been made;");
        IceRun x = Fixtures.sleds(100);
        for (int race = 1; race <= 102; race++) {
            x.race();
            x.begin(race);
            x.start();
            Due.is("close " + race, 1, x.close());
            Due.is("points behind race " + race, 25 * race, x.points(0, 0));
        }
        Document.names("what later calls answer is free.");
    }

    private static void face() throws ReflectiveOperationException {
        Document.names("The public face import java.util.NoSuchElementException;");
        Document.says("public final class IceRun {");
        Due.is("modifiers", Modifier.PUBLIC | Modifier.FINAL, IceRun.class.getModifiers());
        Document.says("public static final int NONE = -1;");
        Due.is("NONE", -1, IceRun.class.getField("NONE").getInt(null));
        Document.says("public IceRun();");
        Due.is("constructors", 1, IceRun.class.getConstructors().length);
        String[] methods = {
            "boolean track(int n, int g);", "boolean bend(int c, int v, int sharp, int sun);",
            "boolean runners(int kind, int sort, int n, int f, int step);", "int copy(int from, int at, int to, int where, int n);",
            "int glide(int kind, int hardness) throws NoSuchElementException;",
            "boolean weather(int minutes, int warmth, int light);", "boolean water(int a, int b);", "int cell(int c, int what);",
            "int standard();", "boolean eye(int gate, int k, int error);", "int sled(int team, int weight, int kind, int skill);",
            "int feed(int a, int b, int c, int d, int e);", "int end(int n);", "int laws();", "int place();", "int law(int what);",
            "boolean race();", "int begin(int seed);", "int order(int i);", "int start();", "int shut();",
            "boolean touch(int s, int warmth);", "int time(int run, int s, int gate);", "int twice(int run, int s, int gate);",
            "int sum(int s, int n);", "int rank(int s, int n);", "int ice(int run, int s) throws NoSuchElementException;",
            "int lost(int run, int s, int k);", "int close();", "int points(int what, int i);", "int count(int what);"};
        for (String method : methods) {
            Document.says("public " + method);
            Due.yes("there", isThere(method));
        }
        Document.names("}");
    }

    /** Names of parameters can't be seen in a class, their types can. */
    private static boolean isThere(String method) {
        String wanted = "public " + method.replaceAll("int \\w+([,)])", "int$1").replace(", ", ",").replace(";", "");
        for (Method m : IceRun.class.getMethods()) {
            if (m.toString().replace("IceRun.", "").replace("java.util.", "").equals(wanted)) {
                return true;
            }
        }
        return false;
    }

    private static void theTrack() {
        Document.names("Terms");
        Document.says("THE TRACK has CELLS 0 to n - 1 (n 5 to 40),");
        for (int n = 5; n <= 40; n++) {
            IceRun x = Fixtures.tracked(n, 2);
            Due.is("first of " + n, 200, x.cell(0, 0));
            Due.is("last of " + n, 200, x.cell(n - 1, 0));
            Due.is("behind the last of " + n, NONE, x.cell(n, 0));
            Due.is("ahead of the first of " + n, NONE, x.cell(-1, 0));
        }
        Due.no("4 cells", new IceRun().track(4, 2));
        Due.no("41 cells", new IceRun().track(41, 2));

        Document.says("each with BEND (50 to 500), SHARP (0 to 9), SUN (0 to 9; all as told),");
        IceRun x = Fixtures.tracked(5, 2);
        Due.yes("least", x.bend(1, 50, 0, 0));
        Due.yes("most", x.bend(2, 500, 9, 9));
        Due.yes("between", x.bend(3, 123, 4, 5));
        int[][] told = {{200, 0, 0}, {50, 0, 0}, {500, 9, 9}, {123, 4, 5}, {200, 0, 0}};
        for (int c = 0; c < 5; c++) {
            for (int what = 0; what < 3; what++) {
                Due.is("cell " + c + " " + what, told[c][what], x.cell(c, what));
            }
        }

        Document.says("HARDNESS (0 to 1000, 500 at first), RUT (0 to 100, 0 at first).");
        for (int c = 0; c < 5; c++) {
            Due.is("hardness at first", 500, x.cell(c, 3));
            Due.is("rut at first", 0, x.cell(c, 4));
        }

        Document.says("GATES 0 to g - 1 (g 2 to 6):");
        for (int g = 2; g <= 6; g++) {
            x = Fixtures.begun(12, g);
            x.start();
            Due.is("gates", g, x.count(1));
            Due.is("the first of " + g, 0, x.time(0, 0, 0));
            Due.yes("the last of " + g, x.time(0, 0, g - 1) > 0);
            Due.is("behind the last of " + g, NONE, x.time(0, 0, g));
        }
        Due.no("1 gate", new IceRun().track(12, 1));
        Due.no("7 gates", new IceRun().track(12, 7));

        Document.says("GATE 0 at CELL 0, the last one behind the last CELL, the others ahead of a CELL each, rising.");
        for (int n = 5; n <= 40; n++) {
            gatesRise(n);
        }
    }

    /** A cell takes 250 on new ice, so that a time tells ahead of which cell its gate stands. */
    private static void gatesRise(int n) {
        for (int g = 2; g <= 6; g++) {
            IceRun x = Fixtures.begun(n, g);
            Due.is("all of " + n, 250 * n, x.start());
            Due.is("gate 0", 0, x.time(0, 0, 0));
            Due.is("last of " + g, 250 * n, x.time(0, 0, g - 1));
            for (int gate = 1; gate < g; gate++) {
                Due.is("a whole cell", 0, x.time(0, 0, gate) % 250);
                Due.yes("gate " + gate + " of " + g + " above the one before", x.time(0, 0, gate) > x.time(0, 0, gate - 1));
            }
        }
    }

    private static void theIce() {
        Document.says("A MINUTE of WARMTH w (-30 to 30) and LIGHT l (0 to 3): each CELL's HARDNESS is less by w + SUN * l, "
                + "from 0 to 1000.");
        for (int w = -30; w <= 30; w++) {
            for (int l = 0; l <= 3; l++) {
                IceRun x = Fixtures.tracked(5, 2);
                x.bend(4, 200, 0, 9);
                Due.yes("a minute of " + w + " " + l, x.weather(1, w, l));
                Due.is("in the shade", 500 - w, x.cell(0, 3));
                Due.is("in the sun", 500 - w - 9 * l, x.cell(4, 3));
            }
        }
        IceRun x = Fixtures.tracked(5, 2);
        x.weather(16, -30, 0);
        Due.is("nearly the hardest", 980, x.cell(0, 3));
        x.weather(1, -30, 0);
        Due.is("the hardest", 1000, x.cell(0, 3));
        x.weather(1, 30, 0);
        Due.is("from there", 970, x.cell(0, 3));
        x.weather(32, 30, 0);
        Due.is("nearly the softest", 10, x.cell(0, 3));
        x.weather(1, 11, 0);
        Due.is("the softest", 0, x.cell(0, 3));
        x.weather(1, -7, 3);
        Due.is("from there", 7, x.cell(0, 3));

        Document.says("WATER on CELLS a to b - 1: RUT 0, HARDNESS less by 100 (0 at least).");
        x = Fixtures.begun(6, 2);
        x.start();
        x.water(2, 4);
        int[] ruts = {2, 2, 0, 0, 2, 2};
        for (int c = 0; c < 6; c++) {
            Due.is("rut of " + c, ruts[c], x.cell(c, 4));
            Due.is("hardness of " + c, ruts[c] == 0 ? 398 : 498, x.cell(c, 3));
        }
        for (int i = 0; i < 4; i++) {
            x.water(3, 4);
        }
        Due.is("0 at least", 0, x.cell(3, 3));
    }

    private static void theRunners() {
        Document.says("RUNNERS have a KIND, 0 to 3,");
        IceRun x = new IceRun();
        for (int kind = 0; kind < 4; kind++) {
            Due.yes("kind " + kind, x.runners(kind, 2, 9, 10 + kind, 0));
        }
        for (int kind = 0; kind < 4; kind++) {
            Due.is("its own row " + kind, 10 + kind, Due.glide(x, kind, 500));
        }
        Due.no("kind -1", x.runners(-1, 2, 9, 0, 0));
        Due.no("kind 4", x.runners(4, 2, 9, 0, 0));

        Document.says("each with a ROW of sort 0 bytes, 1 shorts, 2 ints,");
        int[][] cut = {{100, 7}, {-200, 7}, {200, 200}};
        for (int sort = 0; sort < 3; sort++) {
            x.runners(sort, sort, 2, 0x8064, 0x10007 - 0x8064);
            Due.is("0x8064 of sort " + sort, cut[sort][0], Due.glide(x, sort, 0));
            Due.is("0x10007 of sort " + sort, cut[sort][1], Due.glide(x, sort, 125));
        }

        Document.says("of 0 to 9 numbers,");
        for (int n = 0; n <= 9; n++) {
            Due.yes("of " + n, x.runners(0, 1, n, 1, 1));
            Due.is("the last of " + n, n, n == 0 ? 0 : Due.glide(x, 0, 125 * (n - 1)));
            Due.is("all of " + n, n, x.copy(0, 0, 0, 0, n));
            Due.is("no more than " + n, -4, x.copy(0, 0, 0, 0, n + 1));
        }
        Due.no("of 10", x.runners(0, 1, 10, 1, 1));

        Document.says("or a missing one (sort 3; so at first).");
        Due.yes("sort 3", x.runners(0, 3, 5, 1, 1));
        Due.is("missing", -2, x.copy(0, 0, 0, 0, 0));
        for (int kind = 0; kind < 4; kind++) {
            Due.is("missing at first", -2, new IceRun().copy(kind, 0, kind, 0, 0));
        }

        Document.says("GLIDE of a KIND at a HARDNESS h: entry h / 125 (cut),");
        x.runners(1, 2, 9, 1, 1);
        for (int h = 0; h <= 1000; h += h % 125 == 0 ? 1 : h % 125 == 1 ? 123 : 1) {
            Due.is("at " + h, 1 + h / 125, Due.glide(x, 1, h));
        }

        Document.says("from -200 to 200 (what is beyond counts as that);");
        int[] entries = {-201, -200, -199, 199, 200, 201, Integer.MIN_VALUE, Integer.MAX_VALUE};
        for (int entry : entries) {
            x.runners(1, 2, 1, entry, 0);
            Due.is("entry " + entry, entry < -200 ? -200 : entry > 200 ? 200 : entry, Due.glide(x, 1, 0));
        }

        Document.says("0 if the ROW is missing or has it not.");
        x.runners(1, 2, 3, 50, 0);
        Due.is("has it", 50, Due.glide(x, 1, 374));
        Due.is("has it not", 0, Due.glide(x, 1, 375));
        x.runners(1, 3, 3, 50, 0);
        Due.is("is missing", 0, Due.glide(x, 1, 374));
    }

    private static void theSleds() {
        Document.says("SLEDS (at most 16, numbered as they come):");
        IceRun x = new IceRun();
        for (int s = 0; s < 16; s++) {
            Due.is("its number", s, x.sled(0, 100, 0, 5));
        }
        Due.is("a seventeenth", NONE, x.sled(0, 100, 0, 5));

        Document.says("a TEAM (0 to 3), WEIGHT (50 to 200), KIND of RUNNERS, SKILL (0 to 9).");
        x = new IceRun();
        Due.is("least", 0, x.sled(0, 50, 0, 0));
        Due.is("most", 1, x.sled(3, 200, 3, 9));
        int[][] others = {{-1, 50, 0, 0}, {4, 50, 0, 0}, {0, 49, 0, 0}, {0, 201, 0, 0}, {0, 50, -1, 0}, {0, 50, 4, 0},
            {0, 50, 0, -1}, {0, 50, 0, 10}};
        for (int[] o : others) {
            Due.is("sled " + o[0] + " " + o[1] + " " + o[2] + " " + o[3], NONE, x.sled(o[0], o[1], o[2], o[3]));
        }

        Document.says("TIME of a SLED in a CELL: BEND + (1000 - HARDNESS) / 8 + 2 * RUT + GLIDE + (9 - SKILL) * SHARP - WEIGHT / 8 "
                + "(each / cut),");
        x = Fixtures.tracked(5, 6);
        x.bend(0, 300, 7, 0);
        x.weather(1, 13, 0);
        x.runners(1, 2, 9, 40, 0);
        x.sled(0, 119, 1, 2);
        x.race();
        x.begin(0);
        // 513 / 8 = 64 and 119 / 8 = 14.
        Due.is("total", (300 + 64 + 40 + 7 * 7 - 14) + 4 * (200 + 64 + 40 - 14), x.start());
        Due.is("the first cell", 300 + 64 + 40 + 49 - 14, x.time(0, 0, 1));
        Due.is("the second", 439 + 200 + 64 + 40 - 14, x.time(0, 0, 2));
        x.begin(0);
        // Ruts of 2, and 515 / 8 = 64.
        Due.is("with ruts", 1599 + 5 * 2 * 2, x.start());

        Document.says("at least 1.");
        x = Fixtures.tracked(5, 2);
        for (int c = 0; c < 5; c++) {
            x.bend(c, 50, 0, 0);
        }
        x.runners(0, 2, 9, -86, 0);
        x.sled(0, 200, 0, 5);
        x.race();
        x.begin(0);
        // 50 + 62 - 86 - 25 = 1.
        Due.is("1 in each", 5, x.start());
        Fixtures.mend(x);
        x.bend(4, 51, 0, 0);
        x.weather(1, -30, 0);
        x.begin(0);
        // 470 / 8 = 58: it would be -3 and -2.
        Due.is("1 in each all the same", 5, x.start());
    }

    private static void theWear() {
        Document.says("It goes CELL by CELL: behind each RUT is 1 and WEIGHT / 64 (cut) more, 100 at most, HARDNESS 2 less, "
                + "0 at least.");
        int[] weights = {50, 63, 64, 127, 128, 191, 192, 200};
        int[] ruts = {1, 1, 2, 2, 3, 3, 4, 4};
        for (int i = 0; i < weights.length; i++) {
            IceRun x = Fixtures.sleds(weights[i]);
            x.race();
            x.begin(0);
            Due.is("its own rut is behind it", 5 * (262 - weights[i] / 8), x.start());
            for (int c = 0; c < 5; c++) {
                Due.is("rut by " + weights[i], ruts[i], x.cell(c, 4));
                Due.is("hardness", 498, x.cell(c, 3));
            }
        }
        IceRun x = Fixtures.sleds(200, 200, 200, 200, 200, 200, 200, 200, 200, 200, 200, 200, 200);
        x.race();
        x.weather(49, 10, 0);
        Due.runWhole(x, 0);
        Due.is("thirteen ruts of 4", 52, x.cell(4, 4));
        Due.is("0 at least", 0, x.cell(4, 3));
        Due.runWhole(x, 0);
        Due.is("100 at most", 100, x.cell(4, 4));

        Document.says("TRUE time at a GATE: the sum of TIMES of the CELLS ahead of it.");
        x = Fixtures.tracked(6, 4);
        for (int c = 0; c < 6; c++) {
            x.bend(c, 100 + 10 * c * c, 0, 0);
        }
        x.sled(0, 100, 0, 5);
        x.race();
        x.begin(0);
        x.start();
        Due.is("gate 1", 150 + 160, x.time(0, 0, 1));
        Due.is("gate 2", 150 + 160 + 190 + 240, x.time(0, 0, 2));
        Due.is("gate 3", 150 + 160 + 190 + 240 + 310 + 400, x.time(0, 0, 3));

        Document.says("STANDARD: the sum of TIMES of all CELLS for WEIGHT 100, KIND 0, SKILL 5, as the ice is (it wears nothing).");
        x = Fixtures.tracked(5, 2);
        x.bend(2, 210, 7, 0);
        Due.is("of new ice", 5 * 250 + 10 + 4 * 7, x.standard());
        x.runners(1, 2, 9, 50, 0);
        Due.is("of kind 0", 5 * 250 + 38, x.standard());
        x.runners(0, 2, 9, 3, 0);
        Due.is("with its glide", 5 * 253 + 38, x.standard());
        Due.is("it wears no ruts", 0, x.cell(0, 4));
        Due.is("nor the ice", 500, x.cell(0, 3));
        x.weather(1, 12, 0);
        Due.is("as the ice is", 5 * 255 + 38, x.standard());
    }

    private static void theEyes() {
        Document.says("A GATE but the first has two EYES, 0 and 1,");
        IceRun x = Fixtures.begun(10, 3);
        for (int k = -1; k <= 2; k++) {
            Due.no("gate 0", x.eye(0, k, 0));
            for (int gate = 1; gate < 3; gate++) {
                Due.is("eye " + k + " of gate " + gate, k == 0 || k == 1 ? 1 : 0, x.eye(gate, k, 0) ? 1 : 0);
            }
        }

        Document.says("each with an ERROR (-50 to 50, 0 at first), or BROKEN.");
        for (int error = -52; error <= 102; error++) {
            boolean fit = error >= -50 && error <= 50 || error == 100;
            Due.is("error " + error, fit ? 1 : 0, x.eye(1, 1, error) ? 1 : 0);
        }
        x = Fixtures.begun(10, 3);
        x.start();
        Due.is("0 at first", 1250, x.time(0, 0, 1));
        Due.is("0 at first", 2500, x.time(0, 0, 2));

        Document.says("Its time of a SLED is TRUE and the ERROR of the first EYE that is not BROKEN;");
        // Errors of both eyes, and what of them is in the time.
        int[][] eyes = {{7, -5, 7}, {-50, 50, -50}, {100, -5, -5}, {7, 100, 7}, {0, 9, 0}, {100, 0, 0}};
        for (int[] e : eyes) {
            x = Fixtures.begun(10, 3);
            x.eye(1, 0, e[0]);
            x.eye(1, 1, e[1]);
            x.start();
            Due.is("time by " + e[0] + " and " + e[1], 1250 + e[2], x.time(0, 0, 1));
            Due.is("time at the next", 2500, x.time(0, 0, 2));
        }

        Document.says("DOUBLE: the size of the difference of both EYES (0, if one is BROKEN);");
        int[][] doubles = {{7, -5, 12}, {-50, 50, 100}, {50, -50, 100}, {3, 3, 0}, {100, -5, 0}, {7, 100, 0}, {-9, -4, 5}};
        for (int[] d : doubles) {
            x = Fixtures.begun(10, 3);
            x.eye(2, 0, d[0]);
            x.eye(2, 1, d[1]);
            x.start();
            Due.is("double of " + d[0] + " and " + d[1], d[2], x.twice(0, 0, 2));
            Due.is("double at the other gate", 0, x.twice(0, 0, 1));
        }

        Document.says("MISSING, if both are.");
        x = Fixtures.begun(10, 3);
        Fixtures.breakEyes(x, 1);
        x.start();
        Due.is("missing", NONE, x.time(0, 0, 1));
        Due.is("the next is not", 2500, x.time(0, 0, 2));

        Document.says("GATE 0's is 0.");
        Due.is("gate 0", 0, x.time(0, 0, 0));
    }
}
