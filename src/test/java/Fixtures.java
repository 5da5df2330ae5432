/** Small objects of which times, ranks and points are easily told by hand. */
final class Fixtures {
    private Fixtures() {
    }

    static IceRun tracked(int n, int g) {
        IceRun x = new IceRun();
        Due.yes("track " + n + " " + g, x.track(n, g));
        return x;
    }

    /** A track of 5 cells, 2 gates and sleds of skill 5 and these weights: a cell takes 262 less an eighth of the weight. */
    static IceRun sleds(int... weights) {
        IceRun x = tracked(5, 2);
        for (int weight : weights) {
            x.sled(0, weight, 0, 5);
        }
        return x;
    }

    /** One sled of weight 100, whose run 0 goes on: a cell takes 250. */
    static IceRun begun(int n, int g) {
        IceRun x = tracked(n, g);
        x.sled(0, 100, 0, 5);
        x.race();
        x.begin(0);
        return x;
    }

    /** Five sleds whose skills in a sharp bend rank them 3 1 5 2 4, each 18 behind the next; the first takes 5 * 256. */
    static IceRun skilled(String laws) {
        IceRun x = tracked(5, 2);
        x.bend(0, 200, 9, 0);
        int[] skills = {5, 9, 1, 7, 3};
        for (int skill : skills) {
            x.sled(0, 50, 0, skill);
        }
        Due.is("laws " + laws, 0, Due.laws(x, laws));
        x.race();
        return x;
    }

    /** Makes ice of hardness 500 that one sled has worn as it was. */
    static void mend(IceRun x) {
        x.water(0, x.count(0));
        x.weather(51, -2, 0);
    }

    /** A run in which each sled finds the ice as the first one did. */
    static void cleanRun(IceRun x, int seed) {
        x.begin(seed);
        for (int i = 0; i < 16 && x.count(6) != IceRun.NONE; i++) {
            x.start();
            mend(x);
        }
    }

    static void breakEyes(IceRun x, int gate) {
        x.eye(gate, 0, 100);
        x.eye(gate, 1, 100);
    }

    static void orderIs(IceRun x, int... due) {
        for (int i = 0; i < due.length; i++) {
            Due.is("order " + i, due[i], x.order(i));
        }
        Due.is("order's end", IceRun.NONE, x.order(due.length));
    }
}
