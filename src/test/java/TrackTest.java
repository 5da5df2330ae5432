/** Promises 1, 2, 3, 7, 8, 9, 10: a new object, the track and its ice. */
public final class TrackTest {
    public static void main(String[] args) {
        newObject();
        sizes();
        madeAnew();
        bends();
        weather();
        water();
        cells();
        standard();
        whileRacing();
        Due.done();
    }

    private static void newObject() {
        IceRun x = new IceRun();
        int[] counts = {0, 0, 0, 0, 0, 0, -1, 0, 0, 0, 0};
        for (int what = 0; what < counts.length; what++) {
            Due.is("new count " + what, counts[what], x.count(what));
        }
        int[] laws = {200, 100, 0, 16, 4, 0};
        for (int what = 0; what < laws.length; what++) {
            Due.is("new law " + what, laws[what], x.law(what));
        }
        for (int kind = 0; kind < 4; kind++) {
            Due.is("new row", -2, x.copy(kind, 0, kind, 0, 0));
            Due.is("new glide", 0, Due.glide(x, kind, 500));
        }
        Due.is("new place", -1, x.place());
        Due.is("new order", -1, x.order(0));
        Due.is("new standard", 0, x.standard());
        Due.is("new cell", -1, x.cell(0, 0));
        Due.is("new begin", -1, x.begin(1));
        Due.is("new start", -1, x.start());
        Due.is("new shut", -1, x.shut());
        Due.is("new close", -1, x.close());
        Due.no("new race", x.race());
        Due.no("new touch", x.touch(0, 200));
        Due.is("new sum", -1, x.sum(0, 0));
        Due.is("new rank", -1, x.rank(0, 0));
        Due.is("new ice", Due.THROWN, Due.ice(x, 0, 0));
        Due.is("new lost", -1, x.lost(0, 0, 0));
        Due.is("new time", -1, x.time(0, 0, 0));
        Due.is("new twice", -1, x.twice(0, 0, 0));
        Due.is("new points of a sled", -1, x.points(0, 0));
        Due.is("new points of a team", 0, x.points(1, 0));
        Due.is("none", -1, IceRun.NONE);
    }

    private static void sizes() {
        IceRun x = new IceRun();
        Due.no("4 cells", x.track(4, 2));
        Due.no("41 cells", x.track(41, 2));
        Due.no("1 gate", x.track(5, 1));
        Due.no("7 gates", x.track(40, 7));
        Due.no("least numbers", x.track(Integer.MIN_VALUE, Integer.MIN_VALUE));
        Due.no("most numbers", x.track(Integer.MAX_VALUE, Integer.MAX_VALUE));
        Due.is("refused tracks", 0, x.count(0));
        Due.yes("5 cells", x.track(5, 6));
        Due.is("5 cells", 5, x.count(0));
        Due.is("6 gates", 6, x.count(1));
        Due.yes("40 cells", x.track(40, 2));
        Due.is("40 cells", 40, x.count(0));
        Due.is("2 gates", 2, x.count(1));
    }

    private static void madeAnew() {
        IceRun x = new IceRun();
        x.track(12, 4);
        x.bend(3, 300, 4, 5);
        x.weather(7, 3, 1);
        x.eye(1, 0, 100);
        x.eye(2, 1, 9);
        x.sled(0, 100, 0, 5);
        Due.yes("anew", x.track(7, 4));
        int[] fresh = {200, 0, 0, 500, 0};
        for (int c = 0; c < 7; c++) {
            for (int what = 0; what < 5; what++) {
                Due.is("anew cell " + c + " " + what, fresh[what], x.cell(c, what));
            }
        }
        Due.is("anew end", -1, x.cell(7, 0));
        Due.is("sleds stay", 1, x.count(2));
        x.race();
        x.begin(0);
        x.start();
        // Gates of 7 cells and 4 gates stand ahead of the cells 7 / 3 = 2 and 14 / 3 = 4; a cell takes 250.
        Due.is("gate 1", 2 * 250, x.time(0, 0, 1));
        Due.is("gate 2", 4 * 250, x.time(0, 0, 2));
        Due.is("gate 3", 7 * 250, x.time(0, 0, 3));
        Due.is("eye anew", 0, x.twice(0, 0, 2));
    }

    private static void bends() {
        IceRun x = new IceRun();
        Due.no("no track", x.bend(0, 100, 0, 0));
        x.track(5, 2);
        Due.yes("least", x.bend(0, 50, 0, 0));
        Due.yes("most", x.bend(4, 500, 9, 9));
        int[][] wrong = {
            {-1, 100, 1, 1}, {5, 100, 1, 1}, {1, 49, 1, 1}, {1, 501, 1, 1}, {1, 100, -1, 1},
            {1, 100, 10, 1}, {1, 100, 1, -1}, {1, 100, 1, 10}, {Integer.MIN_VALUE, 100, 1, 1},
            {Integer.MAX_VALUE, 100, 1, 1}};
        for (int[] w : wrong) {
            Due.no("bend " + w[0] + " " + w[1] + " " + w[2] + " " + w[3], x.bend(w[0], w[1], w[2], w[3]));
        }
        Due.is("told bend", 500, x.cell(4, 0));
        Due.is("told sharp", 9, x.cell(4, 1));
        Due.is("told sun", 9, x.cell(4, 2));
        Due.is("told least", 50, x.cell(0, 0));
        Due.is("refused bend", 200, x.cell(1, 0));
        Due.is("refused sharp", 0, x.cell(1, 1));
        Due.is("refused sun", 0, x.cell(1, 2));
    }

    private static void weather() {
        IceRun x = new IceRun();
        Due.no("no track", x.weather(1, 1, 1));
        x.track(5, 2);
        x.bend(1, 200, 0, 4);
        int[][] wrong = {{0, 1, 1}, {601, 1, 1}, {-1, 1, 1}, {1, -31, 1}, {1, 31, 1}, {1, 1, -1}, {1, 1, 4}};
        for (int[] w : wrong) {
            Due.no("weather " + w[0] + " " + w[1] + " " + w[2], x.weather(w[0], w[1], w[2]));
        }
        Due.is("refused weather", 500, x.cell(0, 3));
        Due.yes("warm and light", x.weather(6, 2, 3));
        Due.is("in the shade", 500 - 6 * 2, x.cell(0, 3));
        Due.is("in the sun", 500 - 6 * (2 + 4 * 3), x.cell(1, 3));
        Due.yes("cold and light", x.weather(10, -8, 2));
        Due.is("cold in the shade", 488 + 80, x.cell(0, 3));
        Due.is("cold in the sun", 416, x.cell(1, 3));
        Due.yes("long and cold", x.weather(600, -30, 0));
        Due.is("hardest", 1000, x.cell(0, 3));
        Due.yes("long and warm", x.weather(600, 30, 3));
        Due.is("softest", 0, x.cell(0, 3));
        Due.yes("one minute", x.weather(1, -1, 0));
        Due.is("one minute", 1, x.cell(0, 3));
    }

    private static void water() {
        IceRun x = new IceRun();
        Due.no("no track", x.water(0, 1));
        x.track(6, 2);
        x.sled(0, 200, 0, 5);
        x.race();
        x.begin(0);
        x.start();
        Due.is("a rut", 1 + 200 / 64, x.cell(3, 4));
        int[][] wrong = {{-1, 2}, {2, 2}, {3, 2}, {0, 7}, {6, 7}, {6, 6}, {Integer.MIN_VALUE, Integer.MAX_VALUE}};
        for (int[] w : wrong) {
            Due.no("water " + w[0] + " " + w[1], x.water(w[0], w[1]));
        }
        Due.yes("water", x.water(3, 5));
        int[] ruts = {4, 4, 4, 0, 0, 4};
        int[] hardness = {498, 498, 498, 398, 398, 498};
        for (int c = 0; c < 6; c++) {
            Due.is("rut " + c, ruts[c], x.cell(c, 4));
            Due.is("hardness " + c, hardness[c], x.cell(c, 3));
        }
        x.weather(41, 10, 0);
        Due.is("soft", 88, x.cell(0, 3));
        Due.yes("water on all", x.water(0, 6));
        Due.is("no softer", 0, x.cell(0, 3));
        Due.is("no rut", 0, x.cell(5, 4));
    }

    private static void cells() {
        IceRun x = new IceRun();
        x.track(5, 2);
        int[][] others = {{-1, 0}, {5, 0}, {0, -1}, {0, 5}, {Integer.MAX_VALUE, 0}, {0, Integer.MIN_VALUE}};
        for (int[] o : others) {
            Due.is("cell " + o[0] + " " + o[1], -1, x.cell(o[0], o[1]));
        }
        Due.is("last cell", 200, x.cell(4, 0));
    }

    private static void standard() {
        IceRun x = new IceRun();
        x.track(5, 2);
        // 200 + 500 / 8 - 100 / 8 = 200 + 62 - 12 for each cell.
        Due.is("standard", 5 * 250, x.standard());
        x.bend(1, 300, 7, 0);
        Due.is("standard of a bend", 4 * 250 + 350 + 4 * 7, x.standard());
        x.runners(0, 2, 5, -1, -1);
        Due.is("standard of glides", 4 * 245 + 345 + 28, x.standard());
        x.runners(1, 2, 9, 100, 0);
        Due.is("another kind", 4 * 245 + 345 + 28, x.standard());
        x.weather(1, 3, 0);
        // 503 / 8 = 62, entry 497 / 125 = 3 is -4.
        Due.is("standard of warm ice", 4 * 246 + 346 + 28, x.standard());
        Due.is("it wears nothing", 4 * 246 + 346 + 28, x.standard());
        x.bend(0, 50, 0, 0);
        x.runners(0, 2, 9, -200, 0);
        // The first cell would take 50 + 62 - 200 - 12 and takes 1, the others 50, the bend 150 + 28.
        Due.is("at least 1 in a cell", 1 + 3 * 50 + 178, x.standard());
    }

    private static void whileRacing() {
        IceRun x = new IceRun();
        x.track(5, 2);
        x.sled(0, 100, 0, 5);
        x.race();
        Due.no("track in a race", x.track(6, 2));
        Due.yes("bend between runs", x.bend(0, 210, 1, 1));
        x.begin(0);
        Due.no("bend in a run", x.bend(0, 220, 1, 1));
        Due.yes("weather in a run", x.weather(1, 1, 0));
        Due.yes("water in a run", x.water(0, 1));
        x.start();
        Due.yes("bend behind a run", x.bend(0, 230, 1, 1));
        Due.no("track behind a run", x.track(6, 2));
        x.close();
        Due.is("a rut", 2, x.cell(1, 4));
        Due.yes("track behind a race", x.track(6, 2));
        Due.is("no rut anew", 0, x.cell(1, 4));
    }
}
