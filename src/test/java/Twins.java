import java.util.ArrayList;
import java.util.List;

/**
 * Two objects that were made alike, but for one call: whether any later call shows which is which.
 * Each look goes on from objects of its own, so that none of them is used for more than 512 calls.
 */
final class Twins {
    /** What is done to an object. */
    interface Deed {
        void on(TippedCrates x);
    }

    /** A call with its answer; a boolean counts 1 or 0. */
    interface Call {
        int on(TippedCrates x);
    }

    /** Calls with their answers, in order. */
    private interface Look {
        void at(TippedCrates x, List<Integer> seen);
    }

    private static final Look[] LOOKS = {Twins::counts, Twins::things, Twins::pasts, Twins::slots, Twins::told,
        Twins::would, Twins::wouldOfMarks, Twins::later, Twins::tape, Twins::goingOn};

    /** Of the 512 calls of an object the rest is for what is done ahead. */
    private static final int MOST_CALLS = 350;

    private final Deed ahead;
    private final List<List<Integer>> seen = new ArrayList<>();

    /** The one that stays as it is. */
    Twins(Deed ahead) {
        this.ahead = ahead;
        for (Look look : LOOKS) {
            seen.add(lookAt(look, x -> { }));
        }
    }

    private List<Integer> lookAt(Look look, Deed more) {
        TippedCrates x = new TippedCrates();
        ahead.on(x);
        more.on(x);
        List<Integer> answers = new ArrayList<>();
        look.at(x, answers);
        Check.due("few enough calls: " + answers.size(), answers.size() < MOST_CALLS, true);
        return answers;
    }

    /** A call with the answer that is due; nothing happens by it. */
    void nothingBy(String what, int due, Call call) {
        for (int i = 0; i < LOOKS.length; i++) {
            List<Integer> answers = lookAt(LOOKS[i], x -> Check.due(what, call.on(x), due));
            Check.due("what is seen behind " + what + ", by look " + i, answers.equals(seen.get(i)), true);
        }
    }

    /** Of the answers, which are free here, none matters: nothing happens. */
    void nothingBy(String what, Deed deed) {
        for (int i = 0; i < LOOKS.length; i++) {
            boolean same = lookAt(LOOKS[i], deed).equals(seen.get(i));
            Check.due("what is seen behind " + what + ", by look " + i, same, true);
        }
    }

    /** Whether anything at all tells this one and the other apart. */
    static boolean areAlike(Deed one, Deed other) {
        return new Twins(one).seen.equals(new Twins(other).seen);
    }

    private static int bit(boolean answer) {
        return answer ? 1 : 0;
    }

    private static void counts(TippedCrates x, List<Integer> seen) {
        for (int what = -1; what < 18; what++) {
            seen.add(x.count(what));
        }
        seen.add(x.place());
    }

    private static void things(TippedCrates x, List<Integer> seen) {
        for (int i = 0; i < 75; i++) {
            seen.add(x.flag(i / 3, i % 3));
        }
        for (int i = 0; i < 24; i++) {
            seen.add(x.crate(i / 8, i % 8));
        }
        for (int i = 0; i < 60; i++) {
            seen.add(x.tells(i / 20, i / 5 % 4, i % 5));
        }
    }

    private static void pasts(TippedCrates x, List<Integer> seen) {
        for (int i = 0; i < 42; i++) {
            seen.add(bit(x.undo()));
            for (int what : new int[] {3, 4, 6, 7, 9, 12, 13}) {
                seen.add(x.count(what));
            }
        }
    }

    private static void slots(TippedCrates x, List<Integer> seen) {
        for (int slot = 0; slot < 3; slot++) {
            seen.add(bit(x.restore(slot)));
            for (int what = 0; what < 17; what++) {
                seen.add(x.count(what));
            }
            for (int i = 0; i < 24; i++) {
                seen.add(x.crate(i / 8, i % 8));
            }
            for (int flag = 0; flag < 25; flag++) {
                seen.add(x.flag(flag, 0));
            }
        }
    }

    private static void told(TippedCrates x, List<Integer> seen) {
        for (int k = 0; k <= 21; k++) {
            for (int l = 1; l <= 5; l += 2) {
                seen.add(x.rows(k, k % 2, l, 0));
                seen.add(x.rows(k, k % 2, l, 1));
                seen.add(x.listen(k, k % 2, l));
            }
        }
        seen.add(x.tell(1, 1, true));
        seen.add(x.forget());
    }

    private static void would(TippedCrates x, List<Integer> seen) {
        for (int crate = 0; crate < 3; crate++) {
            seen.add(x.spots(crate));
            seen.add(x.tops(crate));
            seen.add(x.looks(crate));
            seen.add(x.mirror(crate));
            for (int what = 0; what < 2; what++) {
                seen.add(x.round(crate, what));
                seen.add(x.richest(crate, 7, what));
                seen.add(x.game(crate, 3, what));
            }
            for (int other = 0; other < 3; other++) {
                seen.add(x.beside(crate, other));
                seen.add(x.alike(crate, other));
            }
            for (int flag = 0; flag < 25; flag++) {
                seen.add(x.cheapest(crate, flag));
            }
            seen.add(x.spell(crate, 55, 2));
        }
    }

    private static void wouldOfMarks(TippedCrates x, List<Integer> seen) {
        for (int mark = 0; mark < 10; mark++) {
            for (int crate = 0; crate < 3; crate++) {
                seen.add(x.never(crate, mark));
                seen.add(x.nearest(crate, mark, 0));
                seen.add(x.nearest(crate, mark, 1));
                for (int i = -1; i < 3; i++) {
                    seen.add(x.fewest(crate, 3, mark, i));
                }
            }
        }
    }

    private static void later(TippedCrates x, List<Integer> seen) {
        for (int i = 0; i < 6; i++) {
            seen.add(x.then(i / 2, 9, i % 2));
        }
        for (int flag = 0; flag < 25; flag++) {
            seen.add(x.flagIn(flag, 20));
        }
        seen.add(x.paidIn(20));
        for (int mark = 0; mark < 10; mark++) {
            seen.add(x.year(0, mark, 3, 5));
        }
    }

    private static void tape(TippedCrates x, List<Integer> seen) {
        seen.add(x.count(8));
        seen.add(x.read());
        seen.add(x.place());
        counts(x, seen);
        things(x, seen);
    }

    private static void goingOn(TippedCrates x, List<Integer> seen) {
        for (int way = 0; way < 4; way++) {
            seen.add(x.tip(0, way));
            seen.add(bit(x.paint(3 + way, 3)));
        }
        seen.add(x.minutes(13));
        seen.add(bit(x.undo()));
        seen.add(bit(x.hold(1)));
        seen.add(x.minutes(2));
        seen.add(x.tell(2, 3, false));
        counts(x, seen);
        slots(x, seen);
    }
}
