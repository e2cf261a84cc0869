import java.util.ArrayList;
import java.util.List;
import java.util.function.Consumer;

/** All that can be seen of a desk, but place() and the tape's bytes; some two hundred calls. */
final class Look {
    private Look() {
    }

    static List<Integer> at(TentativeDesk d) {
        List<Integer> seen = new ArrayList<>();
        int copies = d.count(0);
        for (int what = 0; what < 19; what++) {
            seen.add(d.count(what));
        }
        for (int i = 0; i < 8; i++) {
            seen.add(d.shut(i));
        }
        for (int session = 0; session < 4; session++) {
            seen.add(d.got(session));
            seen.add(d.session(session, 0));
            seen.add(d.session(session, 1));
            for (int origin = 0; origin < copies; origin++) {
                seen.add(d.of(session, origin, false));
                seen.add(d.of(session, origin, true));
            }
        }
        for (int write = 0; write < d.count(3); write++) {
            seen.add(d.with(write));
            for (int what = 0; what < 6; what++) {
                seen.add(d.write(write, what));
            }
        }
        for (int copy = 0; copy < copies; copy++) {
            addCopy(d, copy, seen);
        }
        return seen;
    }

    private static void addCopy(TentativeDesk d, int copy, List<Integer> seen) {
        for (int what = 0; what < 9; what++) {
            seen.add(d.copy(copy, what));
        }
        for (int cell = 0; cell < d.count(1); cell++) {
            seen.add(d.cell(copy, cell, false));
            seen.add(d.cell(copy, cell, true));
        }
        for (int i = 0; i < d.copy(copy, 1); i++) {
            seen.add(d.log(copy, i));
        }
    }

    static void same(TentativeDesk d, TentativeDesk other) {
        List<Integer> seen = at(d);
        List<Integer> seenThere = at(other);
        Due.is(seen.size(), seenThere.size());
        for (int i = 0; i < Math.min(seen.size(), seenThere.size()); i++) {
            Due.same("thing " + i + " that can be seen", seen.get(i), seenThere.get(i));
        }
    }

    /** The calls leave all as it was, what undo() brings back too. */
    static void unchanged(Consumer<TentativeDesk> ahead, Consumer<TentativeDesk> calls) {
        TentativeDesk with = new TentativeDesk();
        TentativeDesk without = new TentativeDesk();
        ahead.accept(with);
        ahead.accept(without);
        calls.accept(with);
        same(with, without);
        Due.is(with.undo(), without.undo());
        same(with, without);
    }

    static void changed(Consumer<TentativeDesk> ahead, Consumer<TentativeDesk> calls) {
        TentativeDesk with = new TentativeDesk();
        TentativeDesk without = new TentativeDesk();
        ahead.accept(with);
        ahead.accept(without);
        calls.accept(with);
        Due.is(at(with).equals(at(without)), false);
    }

    /** The calls, undone by so many undo(), leave all as it was. */
    static void undone(Consumer<TentativeDesk> ahead, Consumer<TentativeDesk> calls, int times) {
        changed(ahead, calls);
        unchanged(ahead, d -> {
            calls.accept(d);
            for (int i = 0; i < times; i++) {
                Due.is(d.undo(), true);
            }
        });
    }
}
