import java.util.Random;

/** All promises: long runs of calls, the same ones each time, answered as the model answers them. */
public final class ModelTest {
    private static final int OBJECTS = 4000;
    /** Some calls come by the score; an object is used for at most 512. */
    private static final int CALLS = 470;
    private static final String[] PIECES = {"weight", "warm", "reverse", "cut", "runs", "share", "keep", ";", ";", " ", "\n",
        "0", "1", "2", "3", "5", "16", "17", "99", "100", "150", "200", "201", "0004", "12345", "x", "?", "Cut", "\t"};
    private static final int[] ODD = {Integer.MIN_VALUE, -2, -1, 0, 1, 2, 3, 4, 5, 6, 9, 10, 16, 17, 40, 100, 101, Integer.MAX_VALUE};

    private final Random random;
    private final IceRun x = new IceRun();
    private final Model m = new Model();
    private String latest = "";
    private int calls = 0;

    private ModelTest(int seed) {
        random = new Random(seed);
    }

    public static void main(String[] args) {
        for (int seed = 0; seed < OBJECTS; seed++) {
            ModelTest test = new ModelTest(seed);
            test.prepare();
            while (test.calls < CALLS) {
                test.callSome();
            }
        }
        Due.done();
    }

    /** Mostly a number that may stand there, now and then one that is odd. */
    private int some(int low, int high) {
        if (random.nextInt(40) == 0) {
            return ODD[random.nextInt(ODD.length)];
        }
        int edge = random.nextInt(30);
        return edge == 0 ? low - 1 : edge == 1 ? high + 1 : low + random.nextInt(high - low + 1);
    }

    private void prepare() {
        if (random.nextInt(10) == 0) {
            return;
        }
        int n = 5 + random.nextInt(random.nextBoolean() ? 4 : 36);
        int g = 2 + random.nextInt(5);
        due("track", m.track(n, g), x.track(n, g), n, g);
        int many = 1 + random.nextInt(6);
        for (int i = 0; i < many; i++) {
            addSled();
        }
    }

    /** Few different sleds, so that many are even. */
    private void addSled() {
        int weight = random.nextInt(3) == 0 ? some(50, 200) : 50 + 70 * random.nextInt(3);
        int team = some(0, 3);
        int kind = random.nextInt(3) == 0 ? some(0, 3) : 0;
        int skill = some(0, 9);
        due("sled", m.sled(team, weight, kind, skill), x.sled(team, weight, kind, skill), team, weight, kind, skill);
    }

    private void due(String what, long want, long got, int... with) {
        if (want != got) {
            Due.is(what + java.util.Arrays.toString(with) + " behind " + latest, want, got);
        }
        latest = what;
        calls++;
    }

    private void due(String what, boolean want, boolean got, int... with) {
        due(what, want ? 1 : 0, got ? 1 : 0, with);
    }

    private void callSome() {
        switch (random.nextInt(12)) {
            case 0: make(); break;
            case 1: dress(); break;
            case 2: iceChanges(); break;
            case 3: tell(); break;
            case 4: case 5: case 6: go(); break;
            case 7: askIce(); break;
            case 8: case 9: askRun(); break;
            case 10: askRanks(); break;
            default: askRest(); break;
        }
    }

    private void make() {
        int a = some(5, 40);
        int b = some(2, 6);
        if (random.nextInt(4) == 0) {
            due("track", m.track(a, b), x.track(a, b), a, b);
        } else if (random.nextInt(3) == 0) {
            addSled();
        } else {
            int c = some(0, 9);
            int v = random.nextInt(3) == 0 ? 50 : some(50, 500);
            int sharp = some(0, 9);
            int sun = some(0, 9);
            due("bend", m.bend(c, v, sharp, sun), x.bend(c, v, sharp, sun), c, v, sharp, sun);
        }
    }

    private void dress() {
        int a = some(0, 3);
        int b = some(0, 3);
        int c = some(0, 9);
        int d = random.nextInt(4) == 0 ? random.nextInt() : random.nextInt(600) - 400;
        int e = random.nextInt(4) == 0 ? random.nextInt() : random.nextInt(60) - 30;
        if (random.nextBoolean()) {
            due("runners", m.runners(a, b, c, d, e), x.runners(a, b, c, d, e), a, b, c, d, e);
        } else {
            int at = some(0, 5);
            int where = some(0, 5);
            int n = some(0, 4);
            due("copy", m.copy(a, at, b, where, n), x.copy(a, at, b, where, n), a, at, b, where, n);
        }
    }

    private void iceChanges() {
        int a = some(0, 8);
        int b = some(1, 12);
        if (random.nextInt(3) == 0) {
            due("water", m.water(a, b), x.water(a, b), a, b);
        } else if (random.nextInt(3) == 0) {
            int minutes = random.nextInt(3) == 0 ? some(1, 600) : some(1, 20);
            int warmth = some(-30, 30);
            int light = some(0, 3);
            due("weather", m.weather(minutes, warmth, light), x.weather(minutes, warmth, light), minutes, warmth, light);
        } else {
            int gate = some(1, 5);
            int k = some(0, 1);
            int error = random.nextInt(2) == 0 ? 100 : some(-50, 50);
            due("eye", m.eye(gate, k, error), x.eye(gate, k, error), gate, k, error);
        }
    }

    private void tell() {
        if (random.nextInt(8) == 0) {
            int n = some(0, 40);
            due("end", m.end(n), x.end(n), n);
            return;
        }
        if (random.nextInt(8) == 0) {
            int a = random.nextInt();
            due("feed", m.feed(a, 1, 2, 3, 4), x.feed(a, 1, 2, 3, 4), a);
        }
        String text = random.nextInt(3) == 0 ? soup() : goodLaws();
        for (int i = 0; i < text.length(); i += 20) {
            String part = (text.substring(i) + "\n".repeat(20)).substring(0, 20);
            int[] v = new int[5];
            for (int j = 0; j < 20; j++) {
                v[j / 4] = v[j / 4] << 8 | part.charAt(j);
            }
            due("feed", m.feed(v), x.feed(v[0], v[1], v[2], v[3], v[4]), v);
        }
        due("laws of " + text, m.laws(), x.laws());
        due("place of " + text, m.place(), x.place());
        for (int what = 0; what < 6; what++) {
            due("law of " + text, m.law(what), x.law(what), what);
        }
    }

    private String soup() {
        StringBuilder text = new StringBuilder();
        int many = random.nextInt(12);
        for (int i = 0; i < many; i++) {
            text.append(PIECES[random.nextInt(PIECES.length)]);
        }
        return text.toString();
    }

    private String goodLaws() {
        StringBuilder text = new StringBuilder();
        int many = random.nextInt(4);
        for (int i = 0; i < many; i++) {
            String[] laws = {"weight " + (120 + random.nextInt(81)), "warm " + random.nextInt(101), "reverse " + random.nextInt(5),
                "cut " + (2 + random.nextInt(5)), "runs " + (2 + random.nextInt(3)), "share", "keep"};
            text.append(laws[random.nextInt(laws.length)]).append(random.nextBoolean() ? " ;" : ";\n");
        }
        return text.toString();
    }

    private void go() {
        int pick = random.nextInt(24);
        if (pick == 0) {
            due("race", m.race(), x.race());
        } else if (pick == 1) {
            due("shut", m.shut(), x.shut());
        } else if (pick == 2) {
            due("close", m.close(), x.close());
        } else if (pick < 5) {
            int s = some(0, 5);
            int warmth = some(0, 200);
            due("touch", m.touch(s, warmth), x.touch(s, warmth), s, warmth);
        } else if (pick < 10) {
            if (m.count(4) == 0) {
                due("race", m.race(), x.race());
            }
            int seed = random.nextInt();
            due("begin", m.begin(seed), x.begin(seed), seed);
            for (int i = -1; i < 17; i++) {
                due("order", m.order(i), x.order(i), i);
            }
        } else {
            due("start", m.start(), x.start());
        }
    }

    private void askIce() {
        int a = some(0, 3);
        int b = some(0, 1000);
        due("glide", m.glide(a, b), Due.glide(x, a, b), a, b);
        int c = some(0, 9);
        int what = some(0, 4);
        due("cell", m.cell(c, what), x.cell(c, what), c, what);
        due("standard", m.standard(), x.standard());
    }

    private void askRun() {
        int run = some(0, 2);
        int s = some(0, 6);
        int gate = some(0, 5);
        due("time", m.time(run, s, gate), x.time(run, s, gate), run, s, gate);
        due("twice", m.twice(run, s, gate), x.twice(run, s, gate), run, s, gate);
        due("lost", m.lost(run, s, gate), x.lost(run, s, gate), run, s, gate);
        due("ice", m.ice(run, s), Due.ice(x, run, s), run, s);
    }

    private void askRanks() {
        int s = some(0, 6);
        int n = some(0, Math.max(1, m.count(8)));
        due("sum", m.sum(s, n), x.sum(s, n), s, n);
        due("rank", m.rank(s, n), x.rank(s, n), s, n);
    }

    private void askRest() {
        int what = some(0, 10);
        due("count", m.count(what), x.count(what), what);
        int i = some(0, 5);
        int of = some(0, 1);
        due("points", m.points(of, i), x.points(of, i), of, i);
        due("law", m.law(what), x.law(what), what);
        due("order", m.order(i), x.order(i), i);
        due("place", m.place(), x.place());
    }
}
