import java.util.NoSuchElementException;

/** A toboggan run and its races: its ice, its sleds, its laws, its times and the points of its season. */
public final class IceRun {
    public static final int NONE = -1;

    private static final int MOST_CELLS = 40;
    private static final int MOST_GATES = 6;
    private static final int MOST_SLEDS = 16;
    private static final int MOST_RUNS = 4;
    private static final int MOST_BYTES = 300;
    private static final int MOST_ENTRIES = 9;
    private static final int MOST_HARDNESS = 1000;
    private static final int MOST_RUT = 100;
    private static final int MOST_GLIDE = 200;
    private static final int EYES = 2;
    private static final int KINDS = 4;
    private static final int TEAMS = 4;
    private static final int LAWS = 6;
    private static final int BROKEN = 100;
    private static final int PENALTY = 10000;

    /** An eye that errs can tell a time below 0, even NONE: what stands for no time lies below all of these. */
    private static final int MISSING = -1000000;

    private static final int WEIGHT = 0;
    private static final int WARM = 1;
    private static final int REVERSE = 2;
    private static final int CUT = 3;
    private static final int RUNS = 4;
    private static final int SHARE = 5;

    /** What is in force without a law, by the numbers above. */
    private static final int[] USUAL = {200, 100, 0, 16, 4, 0};

    private static final int STANDARD_WEIGHT = 100;
    private static final int STANDARD_KIND = 0;
    private static final int STANDARD_SKILL = 5;

    private static final int[] POINTS = {25, 20, 16, 13, 11, 10, 9, 8, 7, 6, 5, 4, 3, 2, 1, 0};

    private final Track track;
    private final Rows rows;
    private final Sleds sleds;
    private final Tape tape;
    private final LawBook book;
    private final Race race;
    private final Standing standing;
    private int racesClosed;

    public IceRun() {
        track = new Track();
        rows = new Rows();
        sleds = new Sleds();
        tape = new Tape();
        book = new LawBook();
        race = new Race();
        standing = new Standing();
        racesClosed = 0;
    }

    public boolean track(int n, int g) {
        if (!within(n, 5, MOST_CELLS) || !within(g, 2, MOST_GATES) || race.on) {
            return false;
        }
        track.makeAnew(n, g);
        return true;
    }

    public boolean bend(int c, int v, int sharp, int sun) {
        boolean fit = within(v, 50, 500) && within(sharp, 0, 9) && within(sun, 0, 9);
        if (!fit || !track.hasCell(c) || race.going != NONE) {
            return false;
        }
        track.shape(c, v, sharp, sun);
        return true;
    }

    public boolean runners(int kind, int sort, int n, int f, int step) {
        if (!within(kind, 0, KINDS - 1) || !within(sort, 0, Rows.ABSENT)) {
            return false;
        }
        if (n > MOST_ENTRIES || (sort != Rows.ABSENT && n < 0)) {
            return false;
        }
        rows.makeRow(kind, sort, n, f, step);
        return true;
    }

    public int copy(int from, int at, int to, int where, int n) {
        if (!within(from, 0, KINDS - 1) || !within(to, 0, KINDS - 1)) {
            return NONE;
        }
        if (rows.isAbsent(from) || rows.isAbsent(to)) {
            return -2;
        }
        if (!rows.alike(from, to)) {
            return -3;
        }
        if (!rows.holds(from, at, n) || !rows.holds(to, where, n)) {
            return -4;
        }
        rows.carry(from, at, to, where, n);
        return n;
    }

    public int glide(int kind, int hardness) throws NoSuchElementException {
        if (!within(kind, 0, KINDS - 1) || !within(hardness, 0, MOST_HARDNESS)) {
            throw new NoSuchElementException("no such kind or hardness");
        }
        return rows.glideOf(kind, hardness);
    }

    public boolean weather(int minutes, int warmth, int light) {
        boolean fit = within(minutes, 1, 600) && within(warmth, -30, 30) && within(light, 0, 3);
        if (!fit || track.cells == 0) {
            return false;
        }
        track.soften(minutes, warmth, light);
        return true;
    }

    public boolean water(int a, int b) {
        if (a < 0 || a >= b || b > track.cells) {
            return false;
        }
        track.pour(a, b);
        return true;
    }

    public int cell(int c, int what) {
        return track.hasCell(c) ? track.look(c, what) : NONE;
    }

    public int standard() {
        return standardNow();
    }

    public boolean eye(int gate, int k, int error) {
        boolean fit = within(error, -50, 50) || error == BROKEN;
        if (!fit || !within(gate, 1, track.gates - 1) || !within(k, 0, EYES - 1)) {
            return false;
        }
        track.setEye(gate, k, error);
        return true;
    }

    public int sled(int team, int weight, int kind, int skill) {
        boolean fit = within(team, 0, TEAMS - 1) && within(weight, 50, 200)
                && within(kind, 0, KINDS - 1) && within(skill, 0, 9);
        if (!fit || sleds.many >= MOST_SLEDS) {
            return NONE;
        }
        return sleds.add(team, weight, kind, skill);
    }

    public int feed(int a, int b, int c, int d, int e) {
        if (tape.size > MOST_BYTES - 20) {
            return NONE;
        }
        tape.append(a);
        tape.append(b);
        tape.append(c);
        tape.append(d);
        tape.append(e);
        return tape.size;
    }

    public int end(int n) {
        if (!within(n, 0, tape.size)) {
            return NONE;
        }
        tape.size = n;
        return n;
    }

    public int laws() {
        if (race.going != NONE) {
            return NONE;
        }
        int fault = book.take(tape);
        tape.size = 0;
        return fault;
    }

    public int place() {
        return book.place;
    }

    public int law(int what) {
        return book.inForce(what);
    }

    public boolean race() {
        if (track.cells == 0 || race.going != NONE) {
            return false;
        }
        race.forget();
        race.on = true;
        return true;
    }

    public int begin(int seed) {
        if (!race.on || race.going != NONE || race.next >= book.inForce(RUNS) || race.next >= MOST_RUNS) {
            return NONE;
        }
        return race.next == 0 ? beginFirst(seed) : beginLater();
    }

    public int order(int i) {
        return race.orderAt(i);
    }

    public int start() {
        int run = race.going;
        int s = race.nextSled();
        if (run == NONE || s == NONE) {
            return NONE;
        }
        comeDown(run, s);
        race.countDown();
        return race.sheet.totalOf(run, s);
    }

    public int shut() {
        if (race.going == NONE) {
            return NONE;
        }
        return race.shutRun();
    }

    public boolean touch(int s, int warmth) {
        if (!within(warmth, 0, 200) || !race.hasEntered(s)) {
            return false;
        }
        return warmth > book.inForce(WARM) && race.strike(s);
    }

    public int time(int run, int s, int gate) {
        if (!isShown(run, s, gate)) {
            return NONE;
        }
        int time = race.sheet.timeAt(run, s, gate);
        return time == MISSING ? NONE : time;
    }

    public int twice(int run, int s, int gate) {
        return isShown(run, s, gate) ? race.sheet.doubleAt(run, s, gate) : NONE;
    }

    public int sum(int s, int n) {
        if (!within(n, 0, race.events)) {
            return NONE;
        }
        standing.recall(race, n);
        return standing.sumOf(s);
    }

    public int rank(int s, int n) {
        if (!within(n, 0, race.events)) {
            return NONE;
        }
        standing.recall(race, n);
        return standing.rankOf(s);
    }

    public int ice(int run, int s) throws NoSuchElementException {
        if (!race.isWhole(run) || !race.sheet.hasDown(run, s)) {
            throw new NoSuchElementException("no whole run with that sled");
        }
        return race.sheet.iceOf(run, s);
    }

    public int lost(int run, int s, int k) {
        if (!race.isWhole(run) || !race.sheet.hasDown(run, s) || !within(k, 0, track.gates - 2)) {
            return NONE;
        }
        return race.sheet.lostIn(run, s, k, track.gates);
    }

    public int close() {
        if (!race.on || race.going != NONE || race.wholes == 0) {
            return NONE;
        }
        standing.recall(race, race.events);
        int ranked = givePoints();
        race.forget();
        racesClosed++;
        return ranked;
    }

    public int points(int what, int i) {
        if (what == 0) {
            return sleds.has(i) ? sleds.points[i] : NONE;
        }
        return what == 1 && within(i, 0, TEAMS - 1) ? sleds.pointsOfTeam(i) : NONE;
    }

    public int count(int what) {
        switch (what) {
            case 0: return track.cells;
            case 1: return track.gates;
            case 2: return sleds.many;
            case 3: return tape.size;
            case 4: return race.on ? 1 : 0;
            case 5: return race.wholes;
            case 6: return race.going;
            case 7: return race.going == NONE ? 0 : race.down;
            case 8: return race.events;
            case 9: return racesClosed;
            case 10: return race.entries;
            default: return NONE;
        }
    }

    private static boolean within(int x, int low, int high) {
        return x >= low && x <= high;
    }

    /** A part of a run's sheet that may be shown: the run counts or goes on, and the sled has come down in it. */
    private boolean isShown(int run, int s, int gate) {
        boolean told = race.isWhole(run) || (run != NONE && run == race.going);
        return told && race.sheet.hasDown(run, s) && within(gate, 0, track.gates - 1);
    }

    private int timeInCell(int c, int weight, int kind, int skill) {
        int glide = rows.glideOf(kind, track.hardness[c]);
        return track.timeOf(c, weight, skill, glide);
    }

    private int standardNow() {
        int sum = 0;
        for (int c = 0; c < track.cells; c++) {
            sum += timeInCell(c, STANDARD_WEIGHT, STANDARD_KIND, STANDARD_SKILL);
        }
        return sum;
    }

    private int beginFirst(int seed) {
        int entering = sleds.listUpTo(book.inForce(WEIGHT), race.pool);
        if (entering == 0) {
            return NONE;
        }
        race.enter(entering);
        race.drawOrder(seed, entering);
        return race.beginRun();
    }

    private int beginLater() {
        standing.recall(race, race.events);
        int ranked = standing.listByRank(race.pool);
        if (ranked == 0) {
            return NONE;
        }
        race.turnOrder(Math.min(ranked, book.inForce(CUT)), book.inForce(REVERSE));
        return race.beginRun();
    }

    private void comeDown(int run, int s) {
        race.sheet.open(run, s, standardNow());
        int truth = 0;
        for (int gate = 1; gate < track.gates; gate++) {
            truth += ride(s, track.gateCell[gate - 1], track.gateCell[gate]);
            race.sheet.write(run, s, gate, track.timeAtGate(gate, truth), track.doubleAtGate(gate));
        }
        race.sheet.addUp(run, s, track.gates);
    }

    private int ride(int s, int from, int to) {
        int sum = 0;
        for (int c = from; c < to; c++) {
            sum += timeInCell(c, sleds.weight[s], sleds.kind[s], sleds.skill[s]);
            track.wear(c, sleds.weight[s]);
        }
        return sum;
    }

    private int givePoints() {
        boolean share = book.inForce(SHARE) == 1;
        int ranked = 0;
        for (int s = 0; s < sleds.many; s++) {
            if (standing.isRanked(s)) {
                int rank = standing.rankOf(s);
                sleds.points[s] += share ? sharedPoints(rank, standing.manyAt(rank)) : pointsOfPlace(rank);
                ranked++;
            }
        }
        return ranked;
    }

    private static int sharedPoints(int rank, int many) {
        int sum = 0;
        for (int i = 0; i < many; i++) {
            sum += pointsOfPlace(rank + i);
        }
        return many > 0 ? sum / many : 0;
    }

    private static int pointsOfPlace(int place) {
        return within(place, 1, POINTS.length) ? POINTS[place - 1] : 0;
    }

    /** The ice by cells, the gates along it and their eyes. */
    private static final class Track {
        private int cells = 0;
        private int gates = 0;
        private final int[] bend = new int[MOST_CELLS];
        private final int[] sharp = new int[MOST_CELLS];
        private final int[] sun = new int[MOST_CELLS];
        private final int[] hardness = new int[MOST_CELLS];
        private final int[] rut = new int[MOST_CELLS];
        private final int[] gateCell = new int[MOST_GATES];
        private final int[] errors = new int[MOST_GATES * EYES];

        void makeAnew(int n, int g) {
            cells = n;
            gates = g;
            for (int c = 0; c < n; c++) {
                bend[c] = 200;
                sharp[c] = 0;
                sun[c] = 0;
                hardness[c] = 500;
                rut[c] = 0;
            }
            for (int gate = 0; gate < g; gate++) {
                gateCell[gate] = g > 1 ? gate * n / (g - 1) : 0;
            }
            for (int i = 0; i < errors.length; i++) {
                errors[i] = 0;
            }
        }

        boolean hasCell(int c) {
            return within(c, 0, cells - 1);
        }

        void shape(int c, int v, int sharpness, int sunlit) {
            bend[c] = v;
            sharp[c] = sharpness;
            sun[c] = sunlit;
        }

        int look(int c, int what) {
            switch (what) {
                case 0: return bend[c];
                case 1: return sharp[c];
                case 2: return sun[c];
                case 3: return hardness[c];
                case 4: return rut[c];
                default: return NONE;
            }
        }

        /** Every minute changes a cell by the same, so a bound that is met once holds: one step does for all. */
        void soften(int minutes, int warmth, int light) {
            for (int c = 0; c < cells; c++) {
                int left = hardness[c] - minutes * (warmth + sun[c] * light);
                hardness[c] = Math.max(0, Math.min(MOST_HARDNESS, left));
            }
        }

        void pour(int a, int b) {
            for (int c = a; c < b; c++) {
                rut[c] = 0;
                hardness[c] = Math.max(0, hardness[c] - 100);
            }
        }

        void wear(int c, int weight) {
            rut[c] = Math.min(MOST_RUT, rut[c] + 1 + weight / 64);
            hardness[c] = Math.max(0, hardness[c] - 2);
        }

        int timeOf(int c, int weight, int skill, int glide) {
            int soft = (MOST_HARDNESS - hardness[c]) / 8;
            int time = bend[c] + soft + 2 * rut[c] + glide + (9 - skill) * sharp[c] - weight / 8;
            return Math.max(1, time);
        }

        void setEye(int gate, int k, int error) {
            errors[gate * EYES + k] = error;
        }

        int timeAtGate(int gate, int truth) {
            int first = errors[gate * EYES];
            int second = errors[gate * EYES + 1];
            if (first != BROKEN) {
                return truth + first;
            }
            return second != BROKEN ? truth + second : MISSING;
        }

        int doubleAtGate(int gate) {
            int first = errors[gate * EYES];
            int second = errors[gate * EYES + 1];
            return first == BROKEN || second == BROKEN ? 0 : Math.abs(first - second);
        }
    }

    /** The rows of the kinds of runners; a number is cut to its row's sort as it is put there. */
    private static final class Rows {
        private static final int BYTES = 0;
        private static final int SHORTS = 1;
        private static final int ABSENT = 3;

        private final int[] sorts = {ABSENT, ABSENT, ABSENT, ABSENT};
        private final int[] lengths = new int[KINDS];
        private final int[][] entries = new int[KINDS][MOST_ENTRIES];

        void makeRow(int kind, int sort, int n, int f, int step) {
            sorts[kind] = sort;
            lengths[kind] = sort == ABSENT ? 0 : n;
            for (int i = 0; i < lengths[kind]; i++) {
                entries[kind][i] = cutTo(sort, f + i * step);
            }
        }

        private static int cutTo(int sort, int x) {
            if (sort == BYTES) {
                return (byte) x;
            }
            return sort == SHORTS ? (short) x : x;
        }

        boolean isAbsent(int kind) {
            return sorts[kind] == ABSENT;
        }

        boolean alike(int kind, int other) {
            return sorts[kind] == sorts[other];
        }

        boolean holds(int kind, int at, int n) {
            return n >= 0 && within(at, 0, lengths[kind]) && n <= lengths[kind] - at;
        }

        void carry(int from, int at, int to, int where, int n) {
            System.arraycopy(entries[from], at, entries[to], where, n);
        }

        int glideOf(int kind, int hardness) {
            int i = hardness / 125;
            if (!within(i, 0, lengths[kind] - 1)) {
                return 0;
            }
            return Math.max(-MOST_GLIDE, Math.min(MOST_GLIDE, entries[kind][i]));
        }
    }

    /** The sleds as they came, with their points of the season. */
    private static final class Sleds {
        private int many = 0;
        private final int[] team = new int[MOST_SLEDS];
        private final int[] weight = new int[MOST_SLEDS];
        private final int[] kind = new int[MOST_SLEDS];
        private final int[] skill = new int[MOST_SLEDS];
        private final int[] points = new int[MOST_SLEDS];

        int add(int itsTeam, int itsWeight, int itsKind, int itsSkill) {
            int s = many;
            team[s] = itsTeam;
            weight[s] = itsWeight;
            kind[s] = itsKind;
            skill[s] = itsSkill;
            many++;
            return s;
        }

        boolean has(int s) {
            return within(s, 0, many - 1);
        }

        int listUpTo(int most, int[] into) {
            int listed = 0;
            for (int s = 0; s < many; s++) {
                if (weight[s] <= most) {
                    into[listed] = s;
                    listed++;
                }
            }
            return listed;
        }

        int pointsOfTeam(int wanted) {
            int sum = 0;
            for (int s = 0; s < many; s++) {
                if (team[s] == wanted) {
                    sum += points[s];
                }
            }
            return sum;
        }
    }

    /** The bytes that were fed and not yet read as laws. */
    private static final class Tape {
        private int size = 0;
        private final byte[] bytes = new byte[MOST_BYTES];

        void append(int number) {
            for (int shift = 24; shift >= 0 && size < MOST_BYTES; shift -= 8) {
                bytes[size] = (byte) (number >>> shift);
                size++;
            }
        }

        /** NONE beyond the end, so that a reader sees the end as a sign of its own. */
        int byteAt(int i) {
            return i >= 0 && i < size ? bytes[i] & 255 : NONE;
        }
    }

    /** The words of the laws; those without a number put their lowest value into force. */
    private enum Word {
        WEIGHT_WORD("weight", WEIGHT, true, 50, 200),
        WARM_WORD("warm", WARM, true, 0, 100),
        REVERSE_WORD("reverse", REVERSE, true, 0, 16),
        CUT_WORD("cut", CUT, true, 1, 16),
        RUNS_WORD("runs", RUNS, true, 1, 4),
        SHARE_WORD("share", SHARE, false, 1, 1),
        KEEP_WORD("keep", SHARE, false, 0, 0);

        private static final Word[] ALL = values();

        private final String text;
        private final int slot;
        private final boolean numbered;
        private final int low;
        private final int high;

        Word(String text, int slot, boolean numbered, int low, int high) {
            this.text = text;
            this.slot = slot;
            this.numbered = numbered;
            this.low = low;
            this.high = high;
        }
    }

    /** Reads a tape as laws, token by token, as far as its first fault. */
    private static final class LawReader {
        private static final int END = 0;
        private static final int WORD = 1;
        private static final int NUMBER = 2;
        private static final int SEMICOLON = 3;
        private static final int NO_TOKEN = 4;

        private static final int MISPLACED = 1;
        private static final int BEYOND_BOUNDS = 2;

        private final int[] found = new int[LAWS];
        private int token = END;
        private int first = 0;
        private int behind = 0;
        private int fault = 0;

        /** 0, or the fault, whose place is then the first byte of the token at hand. */
        int read(Tape tape) {
            System.arraycopy(USUAL, 0, found, 0, LAWS);
            behind = 0;
            fault = 0;
            advance(tape);
            for (int i = 0; i < MOST_BYTES && fault == 0 && token != END; i++) {
                readLaw(tape);
            }
            return fault;
        }

        private void readLaw(Tape tape) {
            Word word = wordAtHand(tape);
            if (word == null) {
                fault = MISPLACED;
                return;
            }
            advance(tape);
            int value = word.numbered ? readNumber(tape, word.low, word.high) : word.low;
            if (fault == 0 && token != SEMICOLON) {
                fault = MISPLACED;
            }
            if (fault == 0) {
                found[word.slot] = value;
                advance(tape);
            }
        }

        private int readNumber(Tape tape, int low, int high) {
            if (token != NUMBER) {
                fault = MISPLACED;
                return NONE;
            }
            int value = 0;
            for (int i = first; i < behind; i++) {
                value = value * 10 + tape.byteAt(i) - '0';
            }
            if (!within(value, low, high)) {
                fault = BEYOND_BOUNDS;
                return NONE;
            }
            advance(tape);
            return value;
        }

        private Word wordAtHand(Tape tape) {
            if (token == WORD) {
                for (int i = 0; i < Word.ALL.length; i++) {
                    if (spells(tape, Word.ALL[i].text)) {
                        return Word.ALL[i];
                    }
                }
            }
            return null;
        }

        private boolean spells(Tape tape, String text) {
            if (behind - first != text.length()) {
                return false;
            }
            for (int i = 0; i < text.length(); i++) {
                if (tape.byteAt(first + i) != text.charAt(i)) {
                    return false;
                }
            }
            return true;
        }

        private void advance(Tape tape) {
            first = behind;
            while (first < tape.size && isBlank(tape.byteAt(first))) {
                first++;
            }
            int sign = tape.byteAt(first);
            behind = first + 1;
            if (sign == NONE) {
                token = END;
                behind = first;
            } else if (isLetter(sign)) {
                token = WORD;
                while (behind < tape.size && isLetter(tape.byteAt(behind))) {
                    behind++;
                }
            } else if (isDigit(sign)) {
                while (behind < tape.size && isDigit(tape.byteAt(behind))) {
                    behind++;
                }
                token = behind - first <= 4 ? NUMBER : NO_TOKEN;
            } else {
                token = sign == ';' ? SEMICOLON : NO_TOKEN;
            }
        }

        private static boolean isBlank(int sign) {
            return sign == 32 || sign == 10;
        }

        private static boolean isLetter(int sign) {
            return sign >= 'a' && sign <= 'z';
        }

        private static boolean isDigit(int sign) {
            return sign >= '0' && sign <= '9';
        }
    }

    /** The laws in force. */
    private static final class LawBook {
        private final LawReader reader = new LawReader();
        private final int[] values = new int[LAWS];
        private int place = NONE;

        LawBook() {
            System.arraycopy(USUAL, 0, values, 0, LAWS);
        }

        int take(Tape tape) {
            int fault = reader.read(tape);
            place = fault == 0 ? NONE : reader.first;
            if (fault == 0) {
                System.arraycopy(reader.found, 0, values, 0, LAWS);
            }
            return fault;
        }

        int inForce(int what) {
            return within(what, 0, LAWS - 1) ? values[what] : NONE;
        }
    }

    /** A race: who entered, its runs, and at which event each run was whole and each sled struck. */
    private static final class Race {
        private boolean on;
        private int next;
        private int going;
        private int ordered;
        private int down;
        private int events;
        private int wholes;
        private int entries;
        private final int[] order = new int[MOST_SLEDS];
        private final int[] pool = new int[MOST_SLEDS];
        private final boolean[] entered = new boolean[MOST_SLEDS];
        private final int[] struckAt = new int[MOST_SLEDS];
        private final int[] wholeAt = new int[MOST_RUNS];
        private final Sheet sheet = new Sheet();

        Race() {
            forget();
        }

        void forget() {
            on = false;
            next = 0;
            going = NONE;
            ordered = 0;
            down = 0;
            events = 0;
            wholes = 0;
            entries = 0;
            for (int s = 0; s < MOST_SLEDS; s++) {
                entered[s] = false;
                struckAt[s] = NONE;
            }
            for (int run = 0; run < MOST_RUNS; run++) {
                wholeAt[run] = NONE;
            }
            sheet.forgetAll();
        }

        void enter(int many) {
            entries = many;
            for (int i = 0; i < many; i++) {
                entered[pool[i]] = true;
            }
        }

        void drawOrder(int seed, int many) {
            int x = seed;
            ordered = 0;
            for (int left = many; left > 0 && ordered < MOST_SLEDS; left--) {
                x = x * 1103515245 + 12345;
                int at = (x >>> 16) % left;
                order[ordered] = pool[at];
                ordered++;
                System.arraycopy(pool, at + 1, pool, at, left - at - 1);
            }
        }

        /** The order of the first of the pool, of which so many as the law says are turned round. */
        void turnOrder(int many, int reverse) {
            ordered = many;
            int turned = Math.min(many, reverse);
            for (int i = 0; i < many; i++) {
                order[i] = i < turned ? pool[turned - 1 - i] : pool[i];
            }
        }

        int beginRun() {
            going = next;
            next++;
            down = 0;
            return going;
        }

        int orderAt(int i) {
            return within(i, 0, ordered - 1) ? order[i] : NONE;
        }

        int nextSled() {
            return going == NONE ? NONE : orderAt(down);
        }

        void countDown() {
            down++;
            if (down >= ordered && within(going, 0, MOST_RUNS - 1)) {
                wholeAt[going] = events;
                events++;
                wholes++;
                going = NONE;
            }
        }

        int shutRun() {
            going = NONE;
            return down;
        }

        boolean hasEntered(int s) {
            return within(s, 0, MOST_SLEDS - 1) && entered[s];
        }

        boolean strike(int s) {
            if (!hasEntered(s) || struckAt[s] != NONE) {
                return false;
            }
            struckAt[s] = events;
            events++;
            return true;
        }

        boolean isWhole(int run) {
            return isWholeBy(run, events);
        }

        boolean isWholeBy(int run, int n) {
            return within(run, 0, MOST_RUNS - 1) && wholeAt[run] != NONE && wholeAt[run] < n;
        }

        /** Entered, and not struck by then. */
        boolean isInBy(int s, int n) {
            return hasEntered(s) && (struckAt[s] == NONE || struckAt[s] >= n);
        }
    }

    /** What is kept of each sled that came down in each run of a race. */
    private static final class Sheet {
        private final boolean[] came = new boolean[MOST_RUNS * MOST_SLEDS];
        private final int[] totals = new int[MOST_RUNS * MOST_SLEDS];
        private final int[] standards = new int[MOST_RUNS * MOST_SLEDS];
        private final int[] times = new int[MOST_RUNS * MOST_SLEDS * MOST_GATES];
        private final int[] doubles = new int[MOST_RUNS * MOST_SLEDS * MOST_GATES];

        void forgetAll() {
            for (int i = 0; i < came.length; i++) {
                came[i] = false;
            }
        }

        private static int line(int run, int s) {
            return run * MOST_SLEDS + s;
        }

        private static int spot(int run, int s, int gate) {
            return line(run, s) * MOST_GATES + gate;
        }

        void open(int run, int s, int standardThen) {
            came[line(run, s)] = true;
            standards[line(run, s)] = standardThen;
            write(run, s, 0, 0, 0);
        }

        void write(int run, int s, int gate, int time, int difference) {
            times[spot(run, s, gate)] = time;
            doubles[spot(run, s, gate)] = difference;
        }

        void addUp(int run, int s, int gates) {
            int latest = 0;
            for (int gate = 1; gate < gates; gate++) {
                if (isTimed(run, s, gate)) {
                    latest = gate;
                }
            }
            int penalty = latest == gates - 1 ? 0 : PENALTY;
            totals[line(run, s)] = timeAt(run, s, latest) + penalty;
        }

        boolean hasDown(int run, int s) {
            return within(run, 0, MOST_RUNS - 1) && within(s, 0, MOST_SLEDS - 1) && came[line(run, s)];
        }

        int timeAt(int run, int s, int gate) {
            return times[spot(run, s, gate)];
        }

        int doubleAt(int run, int s, int gate) {
            return doubles[spot(run, s, gate)];
        }

        int totalOf(int run, int s) {
            return totals[line(run, s)];
        }

        int iceOf(int run, int s) {
            int started = 0;
            int sum = 0;
            for (int other = 0; other < MOST_SLEDS; other++) {
                if (hasDown(run, other)) {
                    started++;
                    sum += standards[line(run, other)];
                }
            }
            return started * standards[line(run, s)] - sum;
        }

        int lostIn(int run, int s, int k, int gates) {
            int from = k;
            while (from > 0 && !isTimed(run, s, from)) {
                from--;
            }
            int to = k + 1;
            while (to < gates && !isTimed(run, s, to)) {
                to++;
            }
            int bends = to - from;
            if (to >= gates || bends < 1) {
                return NONE;
            }
            int behind = timeAt(run, s, to) - timeAt(run, s, from) - leastBetween(run, s, from, to);
            return behind / bends + (k - from < behind % bends ? 1 : 0);
        }

        private int leastBetween(int run, int s, int from, int to) {
            int least = timeAt(run, s, to) - timeAt(run, s, from);
            for (int other = 0; other < MOST_SLEDS; other++) {
                if (hasDown(run, other) && isTimed(run, other, from) && isTimed(run, other, to)) {
                    least = Math.min(least, timeAt(run, other, to) - timeAt(run, other, from));
                }
            }
            return least;
        }

        private boolean isTimed(int run, int s, int gate) {
            return timeAt(run, s, gate) != MISSING;
        }
    }

    /** Sums and ranks as known behind the events that it was last asked to recall. */
    private static final class Standing {
        private final boolean[] ranked = new boolean[MOST_SLEDS];
        private final int[] sums = new int[MOST_SLEDS];
        private final int[] ranks = new int[MOST_SLEDS];

        void recall(Race race, int n) {
            for (int s = 0; s < MOST_SLEDS; s++) {
                recallSum(race, s, n);
            }
            for (int s = 0; s < MOST_SLEDS; s++) {
                ranks[s] = ranked[s] ? 1 + manyBelow(sums[s]) : NONE;
            }
        }

        private void recallSum(Race race, int s, int n) {
            int wholes = 0;
            int started = 0;
            int sum = 0;
            for (int run = 0; run < MOST_RUNS; run++) {
                if (race.isWholeBy(run, n)) {
                    wholes++;
                    if (race.sheet.hasDown(run, s)) {
                        started++;
                        sum += race.sheet.totalOf(run, s);
                    }
                }
            }
            sums[s] = sum;
            ranked[s] = race.isInBy(s, n) && wholes > 0 && started == wholes;
        }

        private int manyBelow(int sum) {
            int many = 0;
            for (int s = 0; s < MOST_SLEDS; s++) {
                if (ranked[s] && sums[s] < sum) {
                    many++;
                }
            }
            return many;
        }

        boolean isRanked(int s) {
            return within(s, 0, MOST_SLEDS - 1) && ranked[s];
        }

        int sumOf(int s) {
            return isRanked(s) ? sums[s] : NONE;
        }

        int rankOf(int s) {
            return isRanked(s) ? ranks[s] : NONE;
        }

        int manyAt(int rank) {
            int many = 0;
            for (int s = 0; s < MOST_SLEDS; s++) {
                if (rankOf(s) == rank) {
                    many++;
                }
            }
            return many;
        }

        int listByRank(int[] into) {
            int listed = 0;
            for (int rank = 1; rank <= MOST_SLEDS; rank++) {
                for (int s = 0; s < MOST_SLEDS; s++) {
                    if (rankOf(s) == rank && listed < into.length) {
                        into[listed] = s;
                        listed++;
                    }
                }
            }
            return listed;
        }
    }
}
