/** The document's words in the parts 2, 3 and 4 of its terms, each with its check. */
final class RacesSaid {
    private static final int NONE = IceRun.NONE;

    private RacesSaid() {
    }

    static void all() {
        theLaws();
        theFaults();
        whatIsInForce();
        theOrders();
        theRuns();
        theEvents();
        theRanks();
        theIcesPart();
        whatIsLost();
        thePoints();
        whatIsRefused();
        theConstants();
    }

    private static void laws(String text, int fault, int place) {
        IceRun x = new IceRun();
        Due.is("laws of '" + text + "'", fault, Due.laws(x, text));
        Due.is("place in '" + text + "'", place, x.place());
    }

    private static void inForce(String text, int... due) {
        IceRun x = new IceRun();
        Due.is("laws of '" + text + "'", 0, Due.laws(x, text));
        for (int what = 0; what < due.length; what++) {
            Due.is("law " + what + " by '" + text + "'", due[what], x.law(what));
        }
    }

    private static void theLaws() {
        Document.says("==== 2. LAWS, a text of at most 300 bytes:");
        laws("share;".repeat(50), 0, NONE);
        laws(" ".repeat(299) + "?", 1, 299);
        IceRun x = new IceRun();
        Due.feed(x, " ".repeat(300));
        Due.is("more", NONE, x.feed(0, 0, 0, 0, 0));

        Document.says("{LAW}.");
        laws("", 0, NONE);
        laws("cut 3;", 0, NONE);
        laws("cut 3;runs 2;keep;cut 4;", 0, NONE);

        Document.says("LAW: weight NUMBER ; | warm NUMBER ; | reverse NUMBER ; | cut NUMBER ; | runs NUMBER ; | share ; | keep ;");
        inForce("weight 71;", 71, 100, 0, 16, 4, 0);
        inForce("warm 72;", 200, 72, 0, 16, 4, 0);
        inForce("reverse 3;", 200, 100, 3, 16, 4, 0);
        inForce("cut 5;", 200, 100, 0, 5, 4, 0);
        inForce("runs 2;", 200, 100, 0, 16, 2, 0);
        inForce("share;", 200, 100, 0, 16, 4, 1);
        inForce("keep;", 200, 100, 0, 16, 4, 0);
        String[] words = {"weight", "warm", "reverse", "cut", "runs"};
        for (String word : words) {
            laws(word + ";", 1, word.length());
            laws(word + " 50", word.startsWith("w") ? 1 : 2, word.length() + (word.startsWith("w") ? 3 : 1));
        }
        laws("share 1;", 1, 6);
        laws("keep 1;", 1, 5);
        laws("wait 1;", 1, 0);

        Document.says("TOKENS: words (small letters, as many as stand together),");
        laws("sharekeep;", 1, 0);
        laws("share keep;", 1, 6);
        laws("Share;", 1, 0);
        laws("sharE;", 1, 0);
        laws("shareE;", 1, 5);
        laws("sharez;", 1, 0);
        laws("zhare;", 1, 0);

        Document.says("NUMBERS (1 to 4 digits),");
        inForce("cut 7;", 200, 100, 0, 7, 4, 0);
        inForce("cut 0012;", 200, 100, 0, 12, 4, 0);
        laws("cut 00012;", 1, 4);
        laws("cut 1 2;", 1, 6);

        Document.says("; with blanks (32, 10) between or not.");
        inForce("cut7;share;", 200, 100, 0, 7, 4, 1);
        inForce("\n cut\n7 ; \n share\n\n;  ", 200, 100, 0, 7, 4, 1);
        for (int sign = 0; sign < 256; sign++) {
            boolean blank = sign == 32 || sign == 10;
            laws((char) sign + "keep;", blank ? 0 : 1, blank ? NONE : 0);
        }
    }

    private static void theFaults() {
        Document.says("FAULTS, the first from the left:");
        laws("cut 0;cut;", 2, 4);
        laws("cut;cut 0;", 1, 3);
        laws("cut 0", 2, 4);
        laws("cut 1 runs 9;", 1, 6);

        Document.says("1 at the first byte of a TOKEN that can't stand there, or is none (the end: how many bytes there are),");
        laws("cut 3; 4;", 1, 7);
        laws("cut 3; ;", 1, 7);
        laws("cut 3; weights 60;", 1, 7);
        laws("cut cut;", 1, 4);
        laws("cut 3 reverse 1;", 1, 6);
        laws("cut 3; %", 1, 7);
        laws("cut %", 1, 4);
        laws("cut 3 %", 1, 6);
        laws("cut", 1, 3);
        laws("cut 3", 1, 5);
        laws("cut 3;share \n", 1, 13);

        Document.says("2 at a NUMBER beyond its bounds (weight 50 to 200, warm 0 to 100, reverse 0 to 16, cut 1 to 16, runs 1 to 4).");
        bounds("weight", 50, 200);
        bounds("warm", 0, 100);
        bounds("reverse", 0, 16);
        bounds("cut", 1, 16);
        bounds("runs", 1, 4);
    }

    private static void bounds(String word, int low, int high) {
        for (int number = 0; number <= 9999; number += number > 210 ? 89 : 1) {
            boolean fit = number >= low && number <= high;
            laws(word + " " + number + ";", fit ? 0 : 2, fit ? NONE : word.length() + 1);
        }
    }

    private static void whatIsInForce() {
        Document.says("Of LAWS of one word the latest is in force, of share and keep the latest of both;");
        inForce("cut 3;weight 90;cut 5;weight 80;", 80, 100, 0, 5, 4, 0);
        inForce("warm 3;warm 90;reverse 5;reverse 4;runs 1;runs 2;", 200, 90, 4, 16, 2, 0);
        inForce("share;keep;", 200, 100, 0, 16, 4, 0);
        inForce("keep;share;", 200, 100, 0, 16, 4, 1);

        Document.says("of others it is, without one: weight 200, warm 100, reverse 0, cut 16, runs 4, keep.");
        inForce("", 200, 100, 0, 16, 4, 0);
        IceRun x = new IceRun();
        Due.laws(x, "weight 60;warm 7;reverse 8;cut 9;runs 3;share;");
        Due.laws(x, "cut 2;");
        int[] usual = {200, 100, 0, 2, 4, 0};
        for (int what = 0; what < 6; what++) {
            Due.is("law " + what, usual[what], x.law(what));
        }

        Document.says("LAWS are read while no RUN goes on.");
        x = Fixtures.sleds(100);
        Due.is("no race", 0, x.laws());
        x.race();
        Due.is("a race", 0, x.laws());
        x.begin(0);
        Due.is("a run", NONE, x.laws());
        x.start();
        Due.is("behind it", 0, x.laws());
    }

    private static void theOrders() {
        Document.says("==== 3. A RACE has RUNS, 0 to 3.");
        IceRun x = Fixtures.sleds(100);
        x.race();
        for (int run = 0; run < 4; run++) {
            Due.is("run", run, x.begin(0));
            x.start();
        }
        Due.is("no run 4", NONE, x.begin(0));

        Document.says("SLEDS that ENTER: all of WEIGHT up to the law's as RUN 0 begins.");
        x = Fixtures.sleds(99, 100, 101, 50, 200);
        x.race();
        Due.laws(x, "weight 100;");
        x.begin(0);
        Due.is("three", 3, x.count(10));
        for (int s = 0; s < 5; s++) {
            Due.is("touched " + s, s == 0 || s == 1 || s == 3 ? 1 : 0, x.touch(s, 101) ? 1 : 0);
        }
        x.shut();
        Due.laws(x, "");
        x.sled(0, 60, 0, 5);
        Due.no("not behind it", x.touch(2, 101));
        Due.no("nor a new one", x.touch(5, 101));

        Document.says("ORDER of RUN 0: x is the SEED; from the SLEDS that ENTER, in order, time and again "
                + "x = x * 1103515245 + 12345 (ints, they wrap), and the one at place (x >>> 16) % how many are left is next.");
        x = Fixtures.sleds(100, 150, 100, 100, 100);
        Due.laws(x, "weight 149;");
        x.race();
        x.begin(1);
        // 1103527590 >>> 16 = 16838, % 4 = 2; 2524885223 >>> 16 = 38526, % 3 = 0; 662824084 >>> 16 = 10113, % 2 = 1.
        Fixtures.orderIs(x, 3, 0, 4, 2);

        Document.says("Of others: by RANK, as known then, those that have one, the first CUT of them (by the law); "
                + "of these the first REVERSE ones the other way round, the others behind them as they are.");
        x = Fixtures.skilled("");
        Fixtures.cleanRun(x, 4);
        x.begin(4);
        Fixtures.orderIs(x, 1, 3, 0, 4, 2);
        x.shut();
        x.touch(3, 101);
        Due.laws(x, "reverse 2;cut 3;");
        x.begin(4);
        Fixtures.orderIs(x, 0, 1, 4);
        x.shut();
        Due.laws(x, "reverse 16;cut 4;");
        x.begin(4);
        Fixtures.orderIs(x, 2, 4, 0, 1);
        x = sixteen();
        Fixtures.cleanRun(x, 9);
        x.begin(9);
        Fixtures.orderIs(x, 15, 14, 13, 12, 11, 10, 9, 8, 7, 6, 5, 4, 3, 2, 1, 0);
    }

    /** The later they come the heavier, and so the faster they are. */
    private static IceRun sixteen() {
        int[] weights = new int[16];
        for (int s = 0; s < 16; s++) {
            weights[s] = 56 + 8 * s;
        }
        IceRun x = Fixtures.sleds(weights);
        x.race();
        return x;
    }

    private static void theRuns() {
        Document.says("SLEDS start one by one in the ORDER.");
        IceRun x = Fixtures.sleds(100, 100, 100);
        x.race();
        x.begin(5);
        for (int i = 0; i < 3; i++) {
            Due.is("not down", NONE, x.time(0, x.order(i), 0));
            x.start();
            Due.is("down", 0, x.time(0, x.order(i), 0));
        }

        Document.says("As one has come down its TIMES at the GATES are kept;");
        x = Fixtures.begun(6, 3);
        x.eye(1, 0, 4);
        x.start();
        x.eye(1, 0, 9);
        x.bend(0, 400, 9, 9);
        x.weather(9, 9, 3);
        Due.is("gate 1", 754, x.time(0, 0, 1));
        Due.is("gate 2", 1500, x.time(0, 0, 2));

        Document.says("if the last one is MISSING, its total is that at the latest GATE that isn't and 10000 more.");
        x = Fixtures.begun(10, 6);
        int[] totals = {2500, 12000 + 4, 11500, 11000, 10500, 10000};
        x.eye(4, 0, 4);
        x.shut();
        x.race();
        for (int missing = 0; missing < 6; missing++) {
            x.race();
            x.begin(0);
            Due.is("total without " + missing, totals[missing], x.start());
            Fixtures.mend(x);
            if (missing < 5) {
                Fixtures.breakEyes(x, 5 - missing);
            }
        }

        Document.says("When all have come down the RUN is WHOLE, and counts.");
        x = Fixtures.sleds(100, 100);
        x.race();
        x.begin(0);
        x.start();
        Due.is("not whole", 0, x.count(5));
        Due.is("counts for nothing", 0, x.count(8));
        x.start();
        Due.is("whole", 1, x.count(5));
        Due.is("nothing goes on", NONE, x.count(6));
        Due.is("counts", 1250, x.sum(x.order(0), 1));

        Document.says("A RUN that is SHUT counts for nothing, and is not begun anew: the next one has the next number.");
        x.begin(0);
        x.start();
        x.shut();
        Due.is("no sum of it", 1250, x.sum(0, 1));
        Due.is("no event", 1, x.count(8));
        Due.is("not whole", 1, x.count(5));
        Due.is("the next number", 2, x.begin(0));

        Document.says("Behind RUN number RUNS - 1 (by the law), or 3, none begins till the next RACE.");
        for (int runs = 1; runs <= 4; runs++) {
            x = Fixtures.sleds(100);
            Due.laws(x, "runs " + runs + ";");
            x.race();
            for (int run = 0; run < runs; run++) {
                Due.is("run of " + runs, run, x.begin(0));
                x.start();
            }
            Due.is("behind " + runs, NONE, x.begin(0));
            x.race();
            Due.is("the next race", 0, x.begin(0));
        }
    }

    private static void theEvents() {
        Document.says("EVENTS, numbered from 0 on in a RACE: a RUN that is WHOLE; a SLED that is STRUCK.");
        IceRun x = Fixtures.sleds(100, 100);
        x.race();
        x.begin(0);
        x.touch(1, 101);
        Due.is("struck", 1, x.count(8));
        x.start();
        Due.is("a sled that came down is none", 1, x.count(8));
        x.start();
        Due.is("whole", 2, x.count(8));
        Due.is("the run is event 1", NONE, x.rank(0, 1));
        Due.is("known behind it", 1, x.rank(0, 2));
        x.race();
        Due.is("from 0 on", 0, x.count(8));

        Document.says("A SLED that is TOUCHED with a WARMTH of its RUNNERS above the law's (as it is then) is STRUCK, "
                + "if it ENTERED and isn't already.");
        x = Fixtures.sleds(100, 100, 200, 100);
        Due.laws(x, "weight 199;warm 30;");
        x.race();
        x.begin(0);
        Due.no("as warm as the law's", x.touch(0, 30));
        Due.yes("warmer", x.touch(0, 31));
        Due.no("already", x.touch(0, 200));
        Due.no("not entered", x.touch(2, 200));
        x.shut();
        Due.laws(x, "warm 60;");
        Due.no("the law as it is then", x.touch(1, 60));
        Due.yes("warmer than that", x.touch(1, 61));
        Due.is("two events", 2, x.count(8));
    }

    private static void theRanks() {
        Document.says("As known behind the first n EVENTS: SUM of a SLED that ENTERED: of all RUNS that are WHOLE by then its totals;");
        IceRun x = Fixtures.skilled("cut 3;");
        Fixtures.cleanRun(x, 4);
        Fixtures.cleanRun(x, 4);
        int[] sums = {NONE, 1280 + 36, 2 * (1280 + 36), NONE};
        for (int n = 0; n < 4; n++) {
            Due.is("sum of 0 behind " + n, sums[n], x.sum(0, n));
        }

        Document.says("it has a RANK, if it isn't STRUCK by then, started in each of these, and there is one at least:");
        Due.is("none at least", NONE, x.rank(1, 0));
        Due.is("one", 4, x.rank(4, 1));
        Due.is("did not start in each", NONE, x.rank(4, 2));
        x.touch(1, 101);
        Due.is("struck by then", NONE, x.rank(1, 3));
        Due.is("not by then", 1, x.rank(1, 2));

        Document.says("one more than how many that have one have a lesser SUM.");
        int[] first = {3, 1, 5, 2, 4};
        int[] behindThree = {2, NONE, NONE, 1, NONE};
        for (int s = 0; s < 5; s++) {
            Due.is("rank of " + s + " behind 1", first[s], x.rank(s, 1));
            Due.is("rank of " + s + " behind 3", behindThree[s], x.rank(s, 3));
        }
        x = Fixtures.sleds(64, 72, 64, 72, 56);
        x.race();
        Fixtures.cleanRun(x, 1);
        int[] even = {3, 1, 3, 1, 5};
        for (int s = 0; s < 5; s++) {
            Due.is("rank of " + s, even[s], x.rank(s, 1));
        }

        Document.says("(In lists of RANKS those of one RANK stand by their numbers.)");
        x.begin(1);
        Fixtures.orderIs(x, 1, 3, 0, 2, 4);
    }

    private static void theIcesPart() {
        Document.says("==== 4. ICE's part of a total in a RUN that is WHOLE: how many started times the STANDARD as this SLED started, "
                + "less the sum of the STANDARDS as each of them did.");
        IceRun x = Fixtures.sleds(200, 200, 200);
        x.race();
        x.begin(0);
        int[] standards = new int[3];
        int sum = 0;
        for (int i = 0; i < 3; i++) {
            standards[i] = x.standard();
            sum += standards[i];
            x.start();
            x.weather(3, -4 * i, 0);
        }
        // Ruts of 4 and 8: 8 and 16 more a cell, hardness 498 and then 508: 62 and 61.
        Due.is("standard behind one", 5 * 258, standards[1]);
        Due.is("standard behind two", 5 * 265, standards[2]);
        for (int i = 0; i < 3; i++) {
            Due.is("ice of start " + i, 3 * standards[i] - sum, Due.ice(x, 0, x.order(i)));
        }
    }

    private static void whatIsLost() {
        Document.says("LOST in BEND k (from GATE k to GATE k + 1) by a SLED in a RUN that is WHOLE: between two GATES next to one another "
                + "of those that have a time of it, its time between them less the least such of all in the RUN that have a time at both; "
                + "shared by the BENDS between these GATES, as evenly as can be, the first ones one more.");
        IceRun x = Fixtures.tracked(10, 6);
        x.sled(0, 100, 0, 5);
        x.sled(0, 100, 0, 5);
        x.race();
        x.begin(0);
        int a = x.order(0);
        int b = x.order(1);
        x.start();
        Fixtures.mend(x);
        Fixtures.breakEyes(x, 2);
        Fixtures.breakEyes(x, 3);
        Fixtures.breakEyes(x, 5);
        x.eye(1, 0, 2);
        x.eye(4, 0, 10);
        x.start();
        // a: 500 1000 1500 2000 2500, b: 502 - - 2010 -.
        int[] lostByA = {0, 0, 0, 0, 0};
        int[] lostByB = {2, 3, 3, 2, NONE};
        for (int k = 0; k < 5; k++) {
            Due.is("lost by the first in " + k, lostByA[k], x.lost(0, a, k));
            Due.is("lost by the second in " + k, lostByB[k], x.lost(0, b, k));
        }

        Document.says("(Behind the last GATE with a time nothing is told.)");
        Due.is("behind gate 4", NONE, x.lost(0, b, 4));
    }

    private static void thePoints() {
        Document.says("A RACE is CLOSED, if no RUN goes on and one is WHOLE:");
        IceRun x = Fixtures.sleds(100);
        x.race();
        Due.is("none whole", NONE, x.close());
        x.begin(0);
        Due.is("one goes on", NONE, x.close());
        x.start();
        Due.is("closed", 1, x.close());

        Document.says("POINTS by RANK, as known then: 25, 20, 16, 13, 11, 10, 9, 8, 7, 6, 5, 4, 3, 2, 1, 0.");
        int[] points = {25, 20, 16, 13, 11, 10, 9, 8, 7, 6, 5, 4, 3, 2, 1, 0};
        x = sixteen();
        Fixtures.cleanRun(x, 9);
        x.close();
        for (int s = 0; s < 16; s++) {
            Due.is("points of " + s, points[15 - s], x.points(0, s));
        }
        x.race();
        Fixtures.cleanRun(x, 9);
        x.touch(15, 101);
        x.close();
        Due.is("as known then: struck", points[0], x.points(0, 15));
        Due.is("as known then: the first", points[1] + points[0], x.points(0, 14));

        Document.says("By share those of one RANK have, each, the sum of the POINTS of their places divided by how many they are (cut),");
        x = Fixtures.sleds(80, 96, 80, 72, 80, 96);
        Due.laws(x, "share;");
        x.race();
        Fixtures.cleanRun(x, 9);
        x.close();
        // 45 / 2 and 40 / 3.
        int[] shared = {13, 22, 13, 10, 13, 22};
        for (int s = 0; s < 6; s++) {
            Due.is("shared by " + s, shared[s], x.points(0, s));
        }

        Document.says("by keep all those of their RANK.");
        x = Fixtures.sleds(80, 96, 80, 72, 80, 96);
        Due.laws(x, "share;keep;");
        x.race();
        Fixtures.cleanRun(x, 9);
        x.close();
        int[] kept = {16, 25, 16, 10, 16, 25};
        for (int s = 0; s < 6; s++) {
            Due.is("kept by " + s, kept[s], x.points(0, s));
        }

        Document.says("A TEAM's POINTS are its SLEDS'.");
        x = Fixtures.tracked(5, 2);
        for (int s = 0; s < 6; s++) {
            x.sled(s % 3, 56 + 8 * s, 0, 5);
        }
        x.race();
        Fixtures.cleanRun(x, 9);
        x.close();
        int[] teams = {10 + 16, 11 + 20, 13 + 25, 0};
        for (int team = 0; team < 4; team++) {
            Due.is("team " + team, teams[team], x.points(1, team));
        }
    }

    private static void whatIsRefused() {
        Document.says("A refused call changes nothing.");
        Twins.no("track(4, 2)", x -> Twins.bit(x.track(4, 2)), States.ALL);
        Twins.no("bend(0, 49, 1, 1)", x -> Twins.bit(x.bend(0, 49, 1, 1)), States.ALL);
        Twins.no("runners(4, 0, 3, 1, 1)", x -> Twins.bit(x.runners(4, 0, 3, 1, 1)), States.ALL);
        Twins.none("copy(4, 0, 1, 0, 1)", x -> x.copy(4, 0, 1, 0, 1), States.ALL);
        Twins.refused("glide(4, 0)", Due.THROWN, x -> Due.glide(x, 4, 0), States.ALL);
        Twins.no("weather(0, 5, 1)", x -> Twins.bit(x.weather(0, 5, 1)), States.ALL);
        Twins.no("water(2, 2)", x -> Twins.bit(x.water(2, 2)), States.ALL);
        Twins.no("eye(0, 0, 5)", x -> Twins.bit(x.eye(0, 0, 5)), States.ALL);
        Twins.none("sled(4, 100, 0, 5)", x -> x.sled(4, 100, 0, 5), States.ALL);
        Twins.none("feed of a full tape", x -> x.feed(1, 2, 3, 4, 5), States.FULL);
        Twins.none("end(301)", x -> x.end(301), States.ALL);
        Twins.none("laws in a run", IceRun::laws, States.IN_RUN);
        Twins.no("race in a run", x -> Twins.bit(x.race()), States.IN_RUN);
        Twins.none("begin in a run", x -> x.begin(5), States.IN_RUN);
        Twins.none("start without a run", IceRun::start, States.OUT_OF_RUN);
        Twins.none("shut without a run", IceRun::shut, States.OUT_OF_RUN);
        Twins.no("touch(0, 201)", x -> Twins.bit(x.touch(0, 201)), States.ALL);
        Twins.none("close in a run", IceRun::close, States.IN_RUN);
    }

    private static void theConstants() {
        Document.says("The constants: `NONE = -1`: There is none.");
        Due.is("NONE", -1, IceRun.NONE);
    }
}
