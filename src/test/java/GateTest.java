/** Promises 11, 12, 21, 24, 25: eyes, sleds, how they come down and their times at the gates. */
public final class GateTest {
    public static void main(String[] args) {
        eyeRefusals();
        sledRefusals();
        eyesThatErr();
        eyesThatFail();
        timesBelowNothing();
        keptAsTheyWere();
        timesOfSleds();
        wear();
        whereTimesAreTold();
        Due.done();
    }

    private static void eyeRefusals() {
        IceRun x = new IceRun();
        Due.no("no track", x.eye(1, 0, 0));
        x.track(10, 3);
        int[][] wrong = {{0, 0, 1}, {-1, 0, 1}, {3, 0, 1}, {1, -1, 1}, {1, 2, 1}, {1, 0, 51}, {1, 0, -51}, {1, 0, 99},
            {1, 0, 101}, {1, 0, -100}, {Integer.MAX_VALUE, 0, 1}, {1, Integer.MAX_VALUE, 1}};
        for (int[] w : wrong) {
            Due.no("eye " + w[0] + " " + w[1] + " " + w[2], x.eye(w[0], w[1], w[2]));
        }
        Due.yes("least", x.eye(2, 1, -50));
        Due.yes("most", x.eye(1, 0, 50));
        Due.yes("broken", x.eye(1, 1, 100));
        x.track(10, 2);
        Due.no("a gate that is gone", x.eye(2, 0, 1));
    }

    private static void sledRefusals() {
        IceRun x = new IceRun();
        int[][] wrong = {{-1, 100, 0, 0}, {4, 100, 0, 0}, {0, 49, 0, 0}, {0, 201, 0, 0}, {0, 100, -1, 0},
            {0, 100, 4, 0}, {0, 100, 0, -1}, {0, 100, 0, 10}};
        for (int[] w : wrong) {
            Due.is("sled " + w[0] + " " + w[1] + " " + w[2] + " " + w[3], -1, x.sled(w[0], w[1], w[2], w[3]));
        }
        Due.is("none came", 0, x.count(2));
        Due.is("least", 0, x.sled(0, 50, 0, 0));
        Due.is("most", 1, x.sled(3, 200, 3, 9));
        for (int s = 2; s < 16; s++) {
            Due.is("sled " + s, s, x.sled(s % 4, 100, 0, 5));
        }
        Due.is("one too many", -1, x.sled(0, 100, 0, 5));
        Due.is("sixteen", 16, x.count(2));
    }

    private static IceRun oneSled(int cells, int gates) {
        IceRun x = new IceRun();
        x.track(cells, gates);
        x.sled(0, 100, 0, 5);
        x.race();
        return x;
    }

    private static void eyesThatErr() {
        IceRun x = oneSled(10, 3);
        x.eye(1, 0, 7);
        x.eye(1, 1, -5);
        x.eye(2, 0, -50);
        x.eye(2, 1, 50);
        x.begin(0);
        Due.is("total by the first eye", 2500 - 50, x.start());
        Due.is("gate 0", 0, x.time(0, 0, 0));
        Due.is("gate 1", 1250 + 7, x.time(0, 0, 1));
        Due.is("gate 2", 2500 - 50, x.time(0, 0, 2));
        Due.is("twice 0", 0, x.twice(0, 0, 0));
        Due.is("twice 1", 12, x.twice(0, 0, 1));
        Due.is("twice 2", 100, x.twice(0, 0, 2));
    }

    private static void eyesThatFail() {
        IceRun x = oneSled(10, 6);
        x.eye(1, 0, 100);
        x.eye(1, 1, 3);
        x.eye(2, 0, 4);
        x.eye(2, 1, 100);
        x.eye(3, 0, 100);
        x.eye(3, 1, 100);
        x.eye(5, 0, 100);
        x.eye(5, 1, 100);
        x.begin(0);
        Due.is("the latest gate that has a time", 2000 + 10000, x.start());
        int[] times = {0, 503, 1004, -1, 2000, -1};
        for (int gate = 0; gate < 6; gate++) {
            Due.is("time " + gate, times[gate], x.time(0, 0, gate));
            Due.is("twice " + gate, 0, x.twice(0, 0, gate));
        }
        x.eye(5, 1, -2);
        for (int gate = 1; gate < 5; gate++) {
            x.eye(gate, 0, 100);
            x.eye(gate, 1, 100);
        }
        x.begin(0);
        // Each cell has a rut of 2 by then.
        Due.is("the last gate alone", 10 * 254 - 2, x.start());
        x.eye(5, 1, 100);
        x.begin(0);
        Due.is("no gate but the first", 10000, x.start());
        Due.is("gate 0 of it", 0, x.time(2, 0, 0));
        x.eye(5, 0, 0);
        x.begin(0);
        // Ruts of 6, hardness 494: 506 / 8 = 63.
        Due.is("a whole eye again", 10 * (251 + 12), x.start());
    }

    private static void timesBelowNothing() {
        IceRun x = new IceRun();
        x.track(5, 6);
        for (int c = 0; c < 5; c++) {
            x.bend(c, 50, 0, 0);
        }
        x.runners(1, 2, 9, -200, 0);
        x.sled(0, 200, 1, 9);
        for (int gate = 1; gate < 6; gate++) {
            x.eye(gate, 0, -6);
            x.eye(gate, 1, 6);
        }
        x.eye(3, 0, 100);
        x.eye(3, 1, 100);
        x.race();
        x.begin(0);
        Due.is("a total of -1", -1, x.start());
        int[] times = {0, -5, -4, -1, -2, -1};
        for (int gate = 0; gate < 6; gate++) {
            Due.is("time " + gate, times[gate], x.time(0, 0, gate));
        }
        Due.is("it is the first", 1, x.rank(0, 1));
        Due.is("its sum", -1, x.sum(0, 1));
        Due.is("bends 0 to 4 lost nothing", 0, x.lost(0, 0, 4));
        x.eye(5, 0, -50);
        x.begin(0);
        // Ruts of 4 and hardness 498 bring no cell above 1.
        Due.is("a total of -45", -45, x.start());
        Due.is("sum of both", -46, x.sum(0, 2));
    }

    private static void keptAsTheyWere() {
        IceRun x = new IceRun();
        x.track(6, 3);
        x.sled(0, 100, 0, 5);
        x.sled(0, 100, 0, 5);
        x.race();
        x.begin(0);
        int first = x.order(0);
        x.eye(1, 0, 5);
        x.start();
        x.eye(1, 0, 100);
        x.eye(1, 1, 100);
        Due.is("time kept", 755, x.time(0, first, 1));
        Due.is("double kept", 5, x.twice(0, first, 1));
        x.start();
        Due.is("missing", -1, x.time(0, 1 - first, 1));
        Due.is("no double", 0, x.twice(0, 1 - first, 1));
        x.eye(1, 0, 1);
        Due.is("missing for good", -1, x.time(0, 1 - first, 1));
    }

    private static void timesOfSleds() {
        IceRun x = new IceRun();
        x.track(5, 6);
        x.bend(2, 70, 9, 0);
        x.weather(1, 7, 0);
        x.sled(0, 119, 0, 2);
        x.race();
        x.begin(0);
        // 507 / 8 = 63, 119 / 8 = 14, skill 2 in the sharp bend 7 * 9.
        int plain = 200 + 63 - 14;
        int sharp = 70 + 63 + 63 - 14;
        Due.is("total", 4 * plain + sharp, x.start());
        Due.is("gate 2", 2 * plain, x.time(0, 0, 2));
        Due.is("gate 3", 2 * plain + sharp, x.time(0, 0, 3));
    }

    private static void wear() {
        int[] weights = {50, 63, 64, 127, 128, 191, 192, 200};
        for (int weight : weights) {
            IceRun x = new IceRun();
            x.track(5, 2);
            x.sled(0, weight, 0, 5);
            x.race();
            x.begin(0);
            x.start();
            Due.is("rut by " + weight, 1 + weight / 64, x.cell(2, 4));
            Due.is("hardness by " + weight, 498, x.cell(2, 3));
        }
        IceRun x = new IceRun();
        x.track(5, 2);
        for (int s = 0; s < 16; s++) {
            x.sled(0, 200, 0, 5);
        }
        x.race();
        x.weather(49, 10, 0);
        Due.is("soft", 10, x.cell(0, 3));
        Due.runWhole(x, 3);
        Due.is("16 ruts", 64, x.cell(0, 4));
        Due.is("no softer", 0, x.cell(0, 3));
        Due.runWhole(x, 3);
        Due.is("deepest", 100, x.cell(0, 4));
    }

    private static void whereTimesAreTold() {
        IceRun x = new IceRun();
        x.track(6, 3);
        x.sled(0, 100, 0, 5);
        x.sled(0, 100, 0, 5);
        x.sled(0, 200, 0, 5);
        Due.laws(x, "weight 199;");
        x.race();
        x.begin(0);
        int first = x.order(0);
        Due.is("not down yet", -1, x.time(0, first, 0));
        Due.is("not down yet, twice", -1, x.twice(0, first, 0));
        x.start();
        Due.is("down", 1500, x.time(0, first, 2));
        Due.is("down, twice", 0, x.twice(0, first, 2));
        Due.is("other not down", -1, x.time(0, 1 - first, 0));
        Due.is("other not down, twice", -1, x.twice(0, 1 - first, 0));
        int[][] wrong = {{-1, 0, 0}, {1, 0, 0}, {4, 0, 0}, {0, -1, 0}, {0, 2, 0}, {0, 3, 0}, {0, 16, 0}, {0, first, -1}, {0, first, 3},
            {Integer.MAX_VALUE, Integer.MAX_VALUE, Integer.MAX_VALUE}, {Integer.MIN_VALUE, first, 0}};
        for (int[] w : wrong) {
            Due.is("time " + w[0] + " " + w[1] + " " + w[2], -1, x.time(w[0], w[1], w[2]));
            Due.is("twice " + w[0] + " " + w[1] + " " + w[2], -1, x.twice(w[0], w[1], w[2]));
        }
        x.start();
        Due.is("whole", 1500, x.time(0, first, 2));
        x.begin(0);
        x.start();
        Due.is("the next goes on", 0, x.time(1, x.order(0), 0));
        x.shut();
        Due.is("shut", -1, x.time(1, x.order(0), 0));
        Due.is("shut, twice", -1, x.twice(1, x.order(0), 0));
        Due.is("the former is whole", 1500, x.time(0, first, 2));
        x.close();
        Due.is("closed", -1, x.time(0, first, 2));
        Due.is("closed, twice", -1, x.twice(0, first, 2));
        x.race();
        Due.is("a new race", -1, x.time(0, first, 2));
    }
}
