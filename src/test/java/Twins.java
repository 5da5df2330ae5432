import java.util.ArrayList;
import java.util.List;
import java.util.function.ToIntFunction;

/**
 * "A refused call changes nothing": of two objects made alike one is asked what it must refuse, and then both must
 * answer alike whatever is asked, and whatever is done with them. Each look has a pair of its own, as it may change it.
 */
final class Twins {
    private interface Look {
        void at(IceRun x, List<Integer> seen);
    }

    /** An object has 512 calls, of which a state takes less than 100 and asking where it stands some more. */
    private static final int MOST_SEEN = 300;
    private static final int SLEDS = 5;

    private static final Look[] LOOKS = {Twins::numbers, Twins::cells, Twins::rows, Twins::kept, Twins::standing, Twins::tape,
        Twins::onward, Twins::anotherRace};

    private Twins() {
    }

    /** In each of these states the call has the answer that is due, and changes nothing. */
    static void refused(String what, int due, ToIntFunction<IceRun> call, States... states) {
        for (States state : states) {
            for (Look look : LOOKS) {
                IceRun asked = state.make();
                Due.is(what + " in " + state, due, call.applyAsInt(asked));
                compare(what + " in " + state, look, state.make(), asked);
            }
        }
    }

    static void no(String what, ToIntFunction<IceRun> call, States... states) {
        refused(what, 0, call, states);
    }

    static void none(String what, ToIntFunction<IceRun> call, States... states) {
        refused(what, IceRun.NONE, call, states);
    }

    /** In each of these states the call changes nothing, whatever its answer. */
    static void changesNothing(String what, ToIntFunction<IceRun> call, States... states) {
        for (States state : states) {
            for (Look look : LOOKS) {
                IceRun asked = state.make();
                call.applyAsInt(asked);
                compare(what + " in " + state, look, state.make(), asked);
            }
        }
    }

    private static void compare(String what, Look look, IceRun left, IceRun asked) {
        List<Integer> due = new ArrayList<>();
        List<Integer> got = new ArrayList<>();
        look.at(left, due);
        look.at(asked, got);
        Due.is(what + ": how many answers", due.size(), got.size());
        for (int i = 0; i < Math.min(due.size(), got.size()); i++) {
            Due.is(what + ": answer " + i + " behind it", due.get(i), got.get(i));
        }
    }

    static int bit(boolean b) {
        return b ? 1 : 0;
    }

    private static void numbers(IceRun x, List<Integer> seen) {
        for (int i = -1; i < 17; i++) {
            seen.add(x.count(i));
            seen.add(x.law(i));
            seen.add(x.order(i));
            seen.add(x.points(0, i));
            seen.add(x.points(1, i));
        }
        seen.add(x.place());
        seen.add(x.standard());
    }

    private static void cells(IceRun x, List<Integer> seen) {
        for (int c = 0; c < 40; c++) {
            for (int what = 0; what < 5; what++) {
                seen.add(x.cell(c, what));
            }
        }
    }

    /** A row's length is seen by copies of it onto itself, the likeness of sorts by copies of no entries. */
    private static void rows(IceRun x, List<Integer> seen) {
        for (int kind = 0; kind < 4; kind++) {
            for (int i = 0; i < 9; i++) {
                seen.add(Due.glide(x, kind, 125 * i));
                seen.add(x.copy(kind, 0, kind, 0, i + 1));
            }
            for (int other = 0; other < 4; other++) {
                seen.add(x.copy(kind, 0, other, 0, 0));
            }
        }
    }

    private static void kept(IceRun x, List<Integer> seen) {
        for (int run = 0; run < 4; run++) {
            for (int s = 0; s < SLEDS; s++) {
                for (int gate = 0; gate < 5; gate++) {
                    seen.add(x.time(run, s, gate));
                    seen.add(x.twice(run, s, gate));
                    seen.add(x.lost(run, s, gate));
                }
            }
        }
    }

    private static void standing(IceRun x, List<Integer> seen) {
        for (int s = 0; s < SLEDS; s++) {
            for (int run = 0; run < 4; run++) {
                seen.add(Due.ice(x, run, s));
            }
            for (int n = 0; n < 12; n++) {
                seen.add(x.sum(s, n));
                seen.add(x.rank(s, n));
            }
        }
    }

    private static void tape(IceRun x, List<Integer> seen) {
        seen.add(x.shut());
        seen.add(x.laws());
        seen.add(x.place());
        for (int what = 0; what < 6; what++) {
            seen.add(x.law(what));
        }
    }

    /** Goes on with the race, through all the runs that are left. */
    private static void onward(IceRun x, List<Integer> seen) {
        comeDown(x, seen);
        for (int i = 0; i < 4 && seen.size() < MOST_SEEN; i++) {
            seen.add(x.begin(7));
            comeDown(x, seen);
        }
        seen.add(x.close());
        for (int s = 0; s < SLEDS; s++) {
            seen.add(x.points(0, s));
        }
    }

    private static void comeDown(IceRun x, List<Integer> seen) {
        int run = x.count(6);
        for (int i = x.count(7); i < 16 && x.count(6) != IceRun.NONE && seen.size() < MOST_SEEN; i++) {
            int s = x.order(i);
            seen.add(s);
            seen.add(x.start());
            for (int gate = 1; gate < 5; gate++) {
                seen.add(x.time(run, s, gate));
                seen.add(x.twice(run, s, gate));
            }
        }
    }

    private static void anotherRace(IceRun x, List<Integer> seen) {
        seen.add(x.shut());
        seen.add(x.close());
        seen.add(x.sled(0, 70, 1, 4));
        seen.add(bit(x.race()));
        seen.add(x.begin(11));
        comeDown(x, seen);
        seen.add(bit(x.touch(0, 61)));
        seen.add(x.close());
        for (int what = 0; what < 11; what++) {
            seen.add(x.count(what));
        }
    }
}
