import java.util.function.Supplier;

/** The states that an object can be in, each made anew by few calls, so that many are left of the 512. */
enum States {
    /** Nothing was called. */
    FRESH(States::fresh),
    /** A track of 11 cells and 5 gates, five sleds (the last one too heavy), rows, laws, a fault's place, a tape. */
    TRACKED(States::tracked),
    /** A race of which no run has begun. */
    RACED(States::raced),
    /** A race that nobody can enter. */
    EMPTY_RACE(States::emptyRace),
    /** Run 0 goes on: nobody is down. */
    BEGUN(States::begun),
    /** Run 0 goes on: two of four are down, one is struck. */
    RUNNING(States::running),
    /** Run 0 is whole, one is struck. */
    WHOLE(States::whole),
    /** Run 1 goes on: one of three is down. */
    SECOND(States::second),
    /** Run 1 is shut. */
    SHUT(States::shut),
    /** Run 0 is shut, so that nobody has a rank. */
    SHUT_FIRST(States::shutFirst),
    /** All that entered are struck. */
    ALL_STRUCK(States::allStruck),
    /** Run 3 is whole. */
    DONE(States::done),
    /** The race is closed. */
    CLOSED(States::closed),
    /** Sixteen sleds and 300 bytes, no race. */
    FULL(States::full);

    static final States[] ALL = values();
    /** A race is there. */
    static final States[] IN_RACE = {RACED, EMPTY_RACE, BEGUN, RUNNING, WHOLE, SECOND, SHUT, SHUT_FIRST, ALL_STRUCK, DONE};
    /** A run goes on. */
    static final States[] IN_RUN = {BEGUN, RUNNING, SECOND};
    /** No run goes on. */
    static final States[] OUT_OF_RUN = {FRESH, TRACKED, RACED, EMPTY_RACE, WHOLE, SHUT, SHUT_FIRST, ALL_STRUCK, DONE, CLOSED, FULL};
    /** No race is there. */
    static final States[] OUT_OF_RACE = {FRESH, TRACKED, CLOSED, FULL};
    /** A track is there. */
    static final States[] WITH_TRACK = {TRACKED, RACED, EMPTY_RACE, BEGUN, RUNNING, WHOLE, SECOND, SHUT, SHUT_FIRST, ALL_STRUCK, DONE,
        CLOSED, FULL};

    private final Supplier<IceRun> maker;

    States(Supplier<IceRun> maker) {
        this.maker = maker;
    }

    IceRun make() {
        return maker.get();
    }

    private static IceRun fresh() {
        return new IceRun();
    }

    private static IceRun tracked() {
        IceRun x = new IceRun();
        x.track(11, 5);
        x.bend(0, 180, 3, 2);
        x.bend(4, 260, 9, 0);
        x.bend(10, 90, 1, 9);
        x.runners(0, 0, 5, 10, -5);
        x.runners(1, 1, 9, -190, 40);
        x.runners(2, 1, 2, 7, 7);
        x.eye(1, 0, 100);
        x.eye(1, 1, 100);
        x.eye(2, 0, -3);
        x.eye(2, 1, 4);
        x.eye(4, 0, 100);
        x.eye(4, 1, 5);
        x.sled(0, 100, 0, 5);
        x.sled(1, 120, 1, 9);
        x.sled(1, 100, 2, 3);
        x.sled(2, 180, 3, 0);
        x.sled(3, 181, 0, 5);
        x.weather(7, 3, 2);
        x.water(2, 5);
        Due.laws(x, "weight 180; warm 60; reverse 2; cut 3; share;");
        Due.laws(x, "cut 99;");
        Due.feed(x, "warm 9; reverse 1;");
        return x;
    }

    private static IceRun raced() {
        IceRun x = tracked();
        x.race();
        return x;
    }

    private static IceRun emptyRace() {
        IceRun x = new IceRun();
        x.track(6, 3);
        x.sled(0, 150, 0, 5);
        Due.laws(x, "weight 149;");
        x.race();
        return x;
    }

    private static IceRun begun() {
        IceRun x = raced();
        x.begin(3);
        return x;
    }

    private static IceRun running() {
        IceRun x = begun();
        x.start();
        x.start();
        x.touch(1, 61);
        return x;
    }

    private static IceRun whole() {
        IceRun x = running();
        x.start();
        x.start();
        return x;
    }

    private static IceRun second() {
        IceRun x = whole();
        x.begin(0);
        x.start();
        return x;
    }

    private static IceRun shut() {
        IceRun x = second();
        x.shut();
        return x;
    }

    private static IceRun shutFirst() {
        IceRun x = running();
        x.shut();
        return x;
    }

    private static IceRun allStruck() {
        IceRun x = whole();
        x.touch(0, 61);
        x.touch(2, 61);
        x.touch(3, 61);
        return x;
    }

    private static IceRun done() {
        IceRun x = whole();
        for (int run = 1; run < 4; run++) {
            x.begin(0);
            for (int i = 0; i < 3; i++) {
                x.start();
            }
        }
        return x;
    }

    private static IceRun closed() {
        IceRun x = shut();
        x.close();
        return x;
    }

    private static IceRun full() {
        IceRun x = new IceRun();
        x.track(5, 3);
        for (int s = 0; s < 16; s++) {
            x.sled(s % 4, 50 + 10 * s, s / 4, s % 10);
        }
        for (int i = 0; i < 15; i++) {
            x.feed(0x6b656570, 0x3b736861, 0x72653b6b, 0x6565703b, 0x20202020);
        }
        return x;
    }
}
