import java.util.ArrayList;
import java.util.List;
import java.util.regex.Matcher;
import java.util.regex.Pattern;

/** The document told a second time, as plainly as can be and in other ways than IceRun, to compare with. */
final class Model {
    private static final int[] POINTS = {25, 20, 16, 13, 11, 10, 9, 8, 7, 6, 5, 4, 3, 2, 1, 0};
    private static final Pattern TOKEN = Pattern.compile("[ \\n]*([a-z]+|[0-9]+|.|$)", Pattern.DOTALL);

    private static final class Cell {
        int bend = 200;
        int sharp = 0;
        int sun = 0;
        int hardness = 500;
        int rut = 0;
    }

    private record Sled(int team, int weight, int kind, int skill) {
    }

    /** What is kept of a sled in a run; a time is null if it is missing. */
    private static final class Ride {
        int sled;
        int standard;
        int total;
        List<Integer> times = new ArrayList<>();
        List<Integer> doubles = new ArrayList<>();
    }

    private static final class Run {
        List<Integer> order = new ArrayList<>();
        List<Ride> rides = new ArrayList<>();
        boolean whole = false;
        boolean shut = false;

        boolean goesOn() {
            return !whole && !shut;
        }

        Ride of(int s) {
            for (Ride r : rides) {
                if (r.sled == s) {
                    return r;
                }
            }
            return null;
        }
    }

    private static final class Race {
        List<Integer> entered = new ArrayList<>();
        List<Run> runs = new ArrayList<>();
        /** A Run that became whole, or the number of a sled that was struck. */
        List<Object> events = new ArrayList<>();
    }

    private List<Cell> cells = new ArrayList<>();
    private int gates = 0;
    private Integer[][] eyes = new Integer[0][2];
    private final int[] sorts = {3, 3, 3, 3};
    private final List<List<Integer>> rows = new ArrayList<>(List.of(List.of(), List.of(), List.of(), List.of()));
    private final List<Sled> sleds = new ArrayList<>();
    private final List<Integer> points = new ArrayList<>();
    private String tape = "";
    private int[] laws = {200, 100, 0, 16, 4, 0};
    private int place = -1;
    private Race race = null;
    private int closed = 0;

    private boolean running() {
        return race != null && !race.runs.isEmpty() && race.runs.get(race.runs.size() - 1).goesOn();
    }

    private Run running(int run) {
        return race == null || run < 0 || run >= race.runs.size() ? null : race.runs.get(run);
    }

    boolean track(int n, int g) {
        if (n < 5 || n > 40 || g < 2 || g > 6 || race != null) {
            return false;
        }
        cells = new ArrayList<>();
        for (int c = 0; c < n; c++) {
            cells.add(new Cell());
        }
        gates = g;
        eyes = new Integer[g][2];
        for (Integer[] e : eyes) {
            e[0] = 0;
            e[1] = 0;
        }
        return true;
    }

    boolean bend(int c, int v, int sharp, int sun) {
        if (v < 50 || v > 500 || sharp < 0 || sharp > 9 || sun < 0 || sun > 9 || c < 0 || c >= cells.size() || running()) {
            return false;
        }
        cells.get(c).bend = v;
        cells.get(c).sharp = sharp;
        cells.get(c).sun = sun;
        return true;
    }

    boolean runners(int kind, int sort, int n, int f, int step) {
        if (kind < 0 || kind > 3 || sort < 0 || sort > 3 || n > 9 || (n < 0 && sort != 3)) {
            return false;
        }
        List<Integer> row = new ArrayList<>();
        int v = f;
        for (int i = 0; i < n && sort != 3; i++) {
            row.add(sort == 0 ? (int) (byte) v : sort == 1 ? (int) (short) v : v);
            v += step;
        }
        sorts[kind] = sort;
        rows.set(kind, row);
        return true;
    }

    int copy(int from, int at, int to, int where, int n) {
        if (from < 0 || from > 3 || to < 0 || to > 3) {
            return -1;
        }
        if (sorts[from] == 3 || sorts[to] == 3) {
            return -2;
        }
        if (sorts[from] != sorts[to]) {
            return -3;
        }
        if (n < 0 || at < 0 || where < 0 || (long) at + n > rows.get(from).size() || (long) where + n > rows.get(to).size()) {
            return -4;
        }
        List<Integer> part = new ArrayList<>(rows.get(from).subList(at, at + n));
        for (int i = 0; i < n; i++) {
            rows.get(to).set(where + i, part.get(i));
        }
        return n;
    }

    int glide(int kind, int hardness) {
        if (kind < 0 || kind > 3 || hardness < 0 || hardness > 1000) {
            return Due.THROWN;
        }
        int i = hardness / 125;
        return i < rows.get(kind).size() ? Math.max(-200, Math.min(200, rows.get(kind).get(i))) : 0;
    }

    boolean weather(int minutes, int warmth, int light) {
        if (minutes < 1 || minutes > 600 || warmth < -30 || warmth > 30 || light < 0 || light > 3 || cells.isEmpty()) {
            return false;
        }
        for (int m = 0; m < minutes; m++) {
            for (Cell c : cells) {
                c.hardness = Math.max(0, Math.min(1000, c.hardness - (warmth + c.sun * light)));
            }
        }
        return true;
    }

    boolean water(int a, int b) {
        if (a < 0 || b <= a || b > cells.size()) {
            return false;
        }
        for (Cell c : cells.subList(a, b)) {
            c.rut = 0;
            c.hardness = Math.max(0, c.hardness - 100);
        }
        return true;
    }

    int cell(int c, int what) {
        if (c < 0 || c >= cells.size() || what < 0 || what > 4) {
            return -1;
        }
        Cell x = cells.get(c);
        return new int[]{x.bend, x.sharp, x.sun, x.hardness, x.rut}[what];
    }

    private int timeIn(Cell c, Sled s) {
        return Math.max(1, c.bend + (1000 - c.hardness) / 8 + 2 * c.rut + glide(s.kind, c.hardness)
                + (9 - s.skill) * c.sharp - s.weight / 8);
    }

    int standard() {
        return cells.stream().mapToInt(c -> timeIn(c, new Sled(0, 100, 0, 5))).sum();
    }

    boolean eye(int gate, int k, int error) {
        if (gate < 1 || gate >= gates || k < 0 || k > 1 || ((error < -50 || error > 50) && error != 100)) {
            return false;
        }
        eyes[gate][k] = error == 100 ? null : Integer.valueOf(error);
        return true;
    }

    int sled(int team, int weight, int kind, int skill) {
        if (team < 0 || team > 3 || weight < 50 || weight > 200 || kind < 0 || kind > 3 || skill < 0 || skill > 9 || sleds.size() == 16) {
            return -1;
        }
        sleds.add(new Sled(team, weight, kind, skill));
        points.add(0);
        return sleds.size() - 1;
    }

    int feed(int... numbers) {
        if (tape.length() + 20 > 300) {
            return -1;
        }
        for (int x : numbers) {
            tape += "" + (char) (x >> 24 & 255) + (char) (x >> 16 & 255) + (char) (x >> 8 & 255) + (char) (x & 255);
        }
        return tape.length();
    }

    int end(int n) {
        if (n < 0 || n > tape.length()) {
            return -1;
        }
        tape = tape.substring(0, n);
        return n;
    }

    int laws() {
        if (running()) {
            return -1;
        }
        int[] found = {200, 100, 0, 16, 4, 0};
        int fault = read(tape, found);
        tape = "";
        if (fault == 0) {
            laws = found;
            place = -1;
        }
        return fault;
    }

    /** Walks the tokens by what may come next: 0 a law's word, 1 a number, 2 a semicolon. */
    private int read(String text, int[] found) {
        List<String> words = List.of("weight", "warm", "reverse", "cut", "runs");
        int[] low = {50, 0, 0, 1, 1};
        int[] high = {200, 100, 16, 16, 4};
        int next = 0;
        int law = -1;
        Matcher m = TOKEN.matcher(text);
        int from = 0;
        while (m.find(from)) {
            String token = m.group(1);
            place = m.start(1);
            from = m.end();
            if (token.isEmpty()) {
                return next == 0 ? 0 : 1;
            }
            if (next == 0 && (token.equals("share") || token.equals("keep"))) {
                found[5] = token.equals("share") ? 1 : 0;
                next = 2;
            } else if (next == 0 && words.contains(token)) {
                law = words.indexOf(token);
                next = 1;
            } else if (next == 1 && token.matches("[0-9]{1,4}")) {
                int value = Integer.parseInt(token);
                if (value < low[law] || value > high[law]) {
                    return 2;
                }
                found[law] = value;
                next = 2;
            } else if (next == 2 && token.equals(";")) {
                next = 0;
            } else {
                return 1;
            }
        }
        throw new IllegalStateException("the end is a token too");
    }

    int place() {
        return place;
    }

    int law(int what) {
        return what < 0 || what > 5 ? -1 : laws[what];
    }

    boolean race() {
        if (cells.isEmpty() || running()) {
            return false;
        }
        race = new Race();
        return true;
    }

    int begin(int seed) {
        if (race == null || running() || race.runs.size() > 3 || race.runs.size() > laws[4] - 1) {
            return -1;
        }
        Run run = new Run();
        List<Integer> list = new ArrayList<>();
        if (race.runs.isEmpty()) {
            for (int s = 0; s < sleds.size(); s++) {
                if (sleds.get(s).weight <= laws[0]) {
                    list.add(s);
                }
            }
            if (list.isEmpty()) {
                return -1;
            }
            race.entered.addAll(list);
            int x = seed;
            while (!list.isEmpty()) {
                x = x * 1103515245 + 12345;
                run.order.add(list.remove((x >>> 16) % list.size()));
            }
        } else {
            int n = race.events.size();
            for (int s = 0; s < sleds.size(); s++) {
                if (total(s, n) != null) {
                    list.add(s);
                }
            }
            list.sort((a, b) -> Integer.compare(total(a, n), total(b, n)));
            if (list.isEmpty()) {
                return -1;
            }
            list = list.subList(0, Math.min(laws[3], list.size()));
            List<Integer> head = new ArrayList<>(list.subList(0, Math.min(laws[2], list.size())));
            java.util.Collections.reverse(head);
            run.order.addAll(head);
            run.order.addAll(list.subList(head.size(), list.size()));
        }
        race.runs.add(run);
        return race.runs.size() - 1;
    }

    int order(int i) {
        if (race == null || race.runs.isEmpty()) {
            return -1;
        }
        List<Integer> order = race.runs.get(race.runs.size() - 1).order;
        return i < 0 || i >= order.size() ? -1 : order.get(i);
    }

    int start() {
        if (!running()) {
            return -1;
        }
        Run run = race.runs.get(race.runs.size() - 1);
        Ride ride = new Ride();
        ride.sled = run.order.get(run.rides.size());
        ride.standard = standard();
        Sled s = sleds.get(ride.sled);
        ride.times.add(0);
        ride.doubles.add(0);
        int truth = 0;
        for (int c = 0; c < cells.size(); c++) {
            Cell x = cells.get(c);
            truth += timeIn(x, s);
            x.rut = Math.min(100, x.rut + 1 + s.weight / 64);
            x.hardness = Math.max(0, x.hardness - 2);
            for (int gate = 1; gate < gates; gate++) {
                int ahead = gate == gates - 1 ? cells.size() : gate * cells.size() / (gates - 1);
                if (ahead == c + 1) {
                    pass(ride, eyes[gate], truth);
                }
            }
        }
        for (Integer t : ride.times) {
            ride.total = t == null ? ride.total : t;
        }
        ride.total += ride.times.get(gates - 1) == null ? 10000 : 0;
        run.rides.add(ride);
        if (run.rides.size() == run.order.size()) {
            run.whole = true;
            race.events.add(run);
        }
        return ride.total;
    }

    private static void pass(Ride ride, Integer[] eyes, int truth) {
        Integer eye = eyes[0] != null ? eyes[0] : eyes[1];
        ride.times.add(eye == null ? null : Integer.valueOf(truth + eye));
        ride.doubles.add(eyes[0] == null || eyes[1] == null ? 0 : Math.abs(eyes[0] - eyes[1]));
    }

    int shut() {
        if (!running()) {
            return -1;
        }
        Run run = race.runs.get(race.runs.size() - 1);
        run.shut = true;
        return run.rides.size();
    }

    boolean touch(int s, int warmth) {
        if (warmth < 0 || warmth > 200 || race == null || !race.entered.contains(s) || race.events.contains(s) || warmth <= laws[1]) {
            return false;
        }
        race.events.add(s);
        return true;
    }

    private Ride shown(int run, int s, int gate) {
        Run r = running(run);
        return r == null || r.shut || gate < 0 || gate >= gates ? null : r.of(s);
    }

    int time(int run, int s, int gate) {
        Ride ride = shown(run, s, gate);
        return ride == null || ride.times.get(gate) == null ? -1 : ride.times.get(gate);
    }

    int twice(int run, int s, int gate) {
        Ride ride = shown(run, s, gate);
        return ride == null ? -1 : ride.doubles.get(gate);
    }

    /** SUM behind n events, or null without a rank. */
    private Integer total(int s, int n) {
        if (race == null || n < 0 || n > race.events.size() || !race.entered.contains(s)) {
            return null;
        }
        Integer sum = null;
        for (Object event : race.events.subList(0, n)) {
            if (event instanceof Run run) {
                if (run.of(s) == null) {
                    return null;
                }
                sum = (sum == null ? 0 : sum) + run.of(s).total;
            } else if (event.equals(s)) {
                return null;
            }
        }
        return sum;
    }

    int sum(int s, int n) {
        Integer total = total(s, n);
        return total == null ? -1 : total;
    }

    int rank(int s, int n) {
        Integer total = total(s, n);
        if (total == null) {
            return -1;
        }
        int rank = 1;
        for (int o = 0; o < sleds.size(); o++) {
            Integer other = total(o, n);
            rank += other != null && other < total ? 1 : 0;
        }
        return rank;
    }

    int ice(int run, int s) {
        Run r = running(run);
        if (r == null || !r.whole || r.of(s) == null) {
            return Due.THROWN;
        }
        int sum = 0;
        for (Ride ride : r.rides) {
            sum += r.of(s).standard - ride.standard;
        }
        return sum;
    }

    int lost(int run, int s, int k) {
        Run r = running(run);
        if (r == null || !r.whole || r.of(s) == null || k < 0 || k > gates - 2) {
            return -1;
        }
        List<Integer> told = new ArrayList<>();
        for (int gate = 0; gate < gates; gate++) {
            if (r.of(s).times.get(gate) != null) {
                told.add(gate);
            }
        }
        for (int i = 1; i < told.size(); i++) {
            int p = told.get(i - 1);
            int q = told.get(i);
            if (p <= k && k < q) {
                int[] parts = new int[q - p];
                for (int left = between(r.of(s), p, q) - least(r, p, q), at = 0; left > 0; left--, at++) {
                    parts[at % parts.length]++;
                }
                return parts[k - p];
            }
        }
        return -1;
    }

    private static int between(Ride ride, int p, int q) {
        return ride.times.get(q) - ride.times.get(p);
    }

    private static int least(Run run, int p, int q) {
        return run.rides.stream().filter(r -> r.times.get(p) != null && r.times.get(q) != null)
                .mapToInt(r -> between(r, p, q)).min().getAsInt();
    }

    int close() {
        if (race == null || running() || race.runs.stream().noneMatch(r -> r.whole)) {
            return -1;
        }
        int n = race.events.size();
        int ranked = 0;
        for (int place = 1; place <= 16; place++) {
            List<Integer> even = new ArrayList<>();
            int sum = 0;
            for (int s = 0; s < sleds.size(); s++) {
                if (rank(s, n) == place) {
                    sum += POINTS[place - 1 + even.size()];
                    even.add(s);
                }
            }
            for (int s : even) {
                points.set(s, points.get(s) + (laws[5] == 1 ? sum / even.size() : POINTS[place - 1]));
                ranked++;
            }
        }
        race = null;
        closed++;
        return ranked;
    }

    int points(int what, int i) {
        if (what == 0) {
            return i < 0 || i >= sleds.size() ? -1 : points.get(i);
        }
        if (what != 1 || i < 0 || i > 3) {
            return -1;
        }
        int sum = 0;
        for (int s = 0; s < sleds.size(); s++) {
            sum += sleds.get(s).team == i ? points.get(s) : 0;
        }
        return sum;
    }

    int count(int what) {
        return switch (what) {
            case 0 -> cells.size();
            case 1 -> gates;
            case 2 -> sleds.size();
            case 3 -> tape.length();
            case 4 -> race == null ? 0 : 1;
            case 5 -> race == null ? 0 : (int) race.runs.stream().filter(r -> r.whole).count();
            case 6 -> running() ? race.runs.size() - 1 : -1;
            case 7 -> running() ? race.runs.get(race.runs.size() - 1).rides.size() : 0;
            case 8 -> race == null ? 0 : race.events.size();
            case 9 -> closed;
            case 10 -> race == null ? 0 : race.entered.size();
            default -> -1;
        };
    }
}
