import java.util.function.Consumer;
import java.util.function.Supplier;

/**
 * Two objects made alike. What a call must leave unchanged is held against the one that never had
 * the call, so that looking at all of it takes each of them fewer than 512 calls.
 */
final class Twins {
    private static final int MOST_NODES = 31;

    private final Due due;

    Twins(Due due) {
        this.due = due;
    }

    void unchanged(String name, Supplier<HexTable> made, Consumer<HexTable> call) {
        HexTable one = made.get();
        call.accept(one);
        sameAll(name, one, made.get());
    }

    void unchangedInEveryState(String name, Consumer<HexTable> call) {
        Given.states().forEach((state, made) -> unchanged(state + ", " + name, made, call));
    }

    void unchangedWhereSomebodyWins(String name, Consumer<HexTable> call) {
        Given.wonStates().forEach((state, made) -> unchanged(state + ", " + name, made, call));
    }

    /** For a call that may change what is searched, but nothing else. */
    void unchangedButTheSearch(String name, Supplier<HexTable> made, Consumer<HexTable> call) {
        HexTable one = made.get();
        HexTable two = made.get();
        call.accept(one);
        for (int what = 0; what < 9; what++) {
            if (what != 6 && what != 7) {
                due.is(name + ": about(" + what + ")", one.about(what), two.about(what));
            }
        }
        sameCells(name, one, two);
        sameWalk(name, one, two);
        samePlays(name, one, two);
        sameTree(name, one, two);
    }

    /** Looks at everything; the plays and the tree are used up by it. */
    private void sameAll(String name, HexTable one, HexTable two) {
        sameBoard(name, one, two);
        sameWalk(name, one, two);
        sameSearch(name, one, two);
        samePlays(name, one, two);
        sameTree(name, one, two);
    }

    private void sameBoard(String name, HexTable one, HexTable two) {
        for (int what = 0; what < 9; what++) {
            due.is(name + ": about(" + what + ")", one.about(what), two.about(what));
        }
        sameCells(name, one, two);
    }

    private void sameCells(String name, HexTable one, HexTable two) {
        int size = two.about(0);
        for (int y = 0; y < size; y++) {
            for (int x = 0; x < size; x++) {
                due.is(name + ": cell(" + x + ", " + y + ")", one.cell(x, y), two.cell(x, y));
            }
        }
    }

    private void sameWalk(String name, HexTable one, HexTable two) {
        int steps = two.walk();
        due.is(name + ": walk", one.walk(), steps);
        for (int i = 0; i < steps; i++) {
            due.is(name + ": step(" + i + ", 0)", one.step(i, 0), two.step(i, 0));
            due.is(name + ": step(" + i + ", 1)", one.step(i, 1), two.step(i, 1));
        }
    }

    private void sameSearch(String name, HexTable one, HexTable two) {
        int nodes = Math.min(MOST_NODES, two.about(6));
        for (int i = 0; i < nodes; i++) {
            for (int what = 0; what < 6; what++) {
                due.is(name + ": node(" + i + ", " + what + ")", one.node(i, what), two.node(i, what));
            }
        }
        int entries = Math.min(MOST_NODES, two.about(7));
        for (int i = 0; i < entries; i++) {
            due.is(name + ": strategy(" + i + ", 0)", one.strategy(i, 0), two.strategy(i, 0));
            due.is(name + ": strategy(" + i + ", 1)", one.strategy(i, 1), two.strategy(i, 1));
        }
    }

    private void samePlays(String name, HexTable one, HexTable two) {
        int plays = two.about(2);
        for (int k = 0; k <= plays; k++) {
            due.is(name + ": undo " + k, one.undo(), two.undo());
            due.is(name + ": turn behind undo " + k, one.about(1), two.about(1));
        }
    }

    /** A tree is seen by its checker alone: whole, then without its last entries one by one. */
    private void sameTree(String name, HexTable one, HexTable two) {
        int entries = two.about(8);
        for (int n = entries; n >= Math.max(0, entries - MOST_NODES); n--) {
            due.is(name + ": prune(" + n + ")", one.prune(n), two.prune(n));
            due.is(name + ": check(1) of " + n, one.check(1), two.check(1));
            due.is(name + ": check(2) of " + n, one.check(2), two.check(2));
        }
    }
}
