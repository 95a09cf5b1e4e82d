/** The boundary cases of promises 14 to 17: load, plant, graft, prune. The tree is seen by way of check and about(8). */
public final class EdgeTreeTest {
    private static final Due due = new Due("EdgeTreeTest");
    private static final Twins twins = new Twins(due);
    private static final int MOST = 8000;

    public static void main(String[] args) {
        loadWithoutASearch();
        loadWhatNobodyFound();
        loadInPlaceOfAnother();
        loadIsACopy();
        loadLeavesTheRest();
        plantBehindNoSuchOne();
        plantBehindTheRootOrTheLast();
        plantAnyCell();
        plantLeavesTheRest();
        plantWhenThereAre8000();
        plantWhereThereWere8000();
        graftNoneSuch();
        graftInAnEmptyTree();
        graftAnyCell();
        graftKeepsWhatIsAhead();
        graftTheLastOf8000();
        pruneTooMany();
        pruneBelowZero();
        pruneToNone();
        pruneToAll();
        pruneOneByOne();
        prunedEntriesAreGone();
        pruneOf8000();
        manyEntries();
        due.end();
    }

    private static int told(int wrong, int entry) {
        return wrong + 16 * (entry + 1);
    }

    private static void loadWithoutASearch() {
        due.by("14: The TREE becomes the STRATEGY: an empty one, nothing searched");
        HexTable x = new HexTable(3);
        due.is("load", x.load(), 0);
        x.plant(-1, 4);
        due.is("load over a planted one", x.load(), 0);
        due.is("TREE", x.about(8), 0);
        due.is("check", x.check(1), 3);
    }

    private static void loadWhatNobodyFound() {
        due.by("14: The TREE becomes the STRATEGY: an empty one, nobody found");
        HexTable x = Given.busy(1);
        x.search(30);
        due.is("TREE ahead", x.about(8), 7);
        due.is("load", x.load(), 0);
        due.is("TREE", x.about(8), 0);
        due.is("check", x.check(1), 3);
        due.is("nothing to graft", x.graft(0, 0), false);
    }

    private static void loadInPlaceOfAnother() {
        due.by("14: how many entries: the STRATEGY's alone");
        HexTable longer = new HexTable(2);
        for (int k = 0; k < 40; k++) {
            longer.plant(-1, k);
        }
        longer.search(8000);
        due.is("over a longer one", longer.load(), 7);
        due.is("TREE", longer.about(8), 7);
        due.is("check", longer.check(1), 0);
        HexTable shorter = Given.tree(2, -1, 0, 0, 1);
        shorter.search(8000);
        due.is("over a shorter one", shorter.load(), 7);
        due.is("check", shorter.check(1), 0);
        HexTable wide = new HexTable(3);
        wide.search(8000);
        due.is("a large one", wide.load(), wide.about(7));
        due.is("TREE", wide.about(8), wide.about(7));
        due.is("check", wide.check(1), 0);
    }

    private static void loadIsACopy() {
        due.by("14: The TREE becomes the STRATEGY: each stays when the other one changes");
        HexTable x = Given.busy(1);
        x.graft(0, 3);
        x.plant(-1, 0);
        due.is("a cell of the STRATEGY", x.strategy(0, 1), 1);
        due.is("entries of the STRATEGY", x.about(7), 7);
        x.prune(0);
        due.is("entries of the STRATEGY", x.about(7), 7);
        due.is("load again", x.load(), 7);
        x.set(1, 0, 1);
        x.search(8000);
        due.is("another STRATEGY", x.about(7), 1);
        x.set(1, 0, 0);
        due.is("the TREE stays", x.about(8), 7);
        due.is("check", x.check(1), 0);
    }

    private static void loadLeavesTheRest() {
        due.by("14: load leaves the board and the search");
        HexTable x = new HexTable(2);
        x.search(8000);
        x.play(0, 0);
        x.load();
        due.is("PLAYS", x.about(2), 1);
        due.is("TURN", x.about(1), 2);
        due.is("NODES", x.about(6), 31);
        due.is("STRATEGY", x.about(7), 7);
        due.is("undo", x.undo(), 0);
        Given.states().forEach((state, made) -> {
            HexTable y = made.get();
            due.is(state + ", load", y.load(), y.about(7));
        });
    }

    private static void plantBehindNoSuchOne() {
        due.by("15: NONE, and none comes: no such one ahead");
        twins.unchangedInEveryState("plant", x -> {
            int entries = x.about(8);
            for (int ahead : Given.notBelow(entries)) {
                if (ahead != HexTable.NONE) {
                    due.is("plant(" + ahead + ", 0)", x.plant(ahead, 0), -1);
                    due.is("plant(" + ahead + ", max)", x.plant(ahead, Integer.MAX_VALUE), -1);
                }
            }
        });
    }

    private static void plantBehindTheRootOrTheLast() {
        due.by("15: An entry comes to the TREE behind another one (NONE: the root): its number");
        HexTable x = new HexTable(2);
        due.is("not behind itself", x.plant(0, 1), -1);
        due.is("the root", x.plant(-1, 1), 0);
        due.is("not behind itself", x.plant(1, 0), -1);
        due.is("the last one", x.plant(0, 0), 1);
        due.is("the last one", x.plant(1, 2), 2);
        due.is("the first one", x.plant(0, 2), 3);
        due.is("the root again", x.plant(-1, 0), 4);
        due.is("TREE", x.about(8), 5);
    }

    private static void plantAnyCell() {
        due.by("15: with the number of a cell (any int)");
        int[] cells = {Integer.MIN_VALUE, Integer.MIN_VALUE + 1, -121, -1, 9, 121, 1 << 16, Integer.MAX_VALUE};
        HexTable x = new HexTable(3);
        for (int k = 0; k < cells.length; k++) {
            due.is("plant " + cells[k], x.plant(-1, cells[k]), k);
            HexTable alone = new HexTable(3);
            alone.plant(-1, cells[k]);
            due.is("check of " + cells[k], alone.check(1), told(1, 0));
            HexTable one = new HexTable(1);
            one.plant(-1, cells[k]);
            due.is("check of " + cells[k] + ", size 1", one.check(1), told(1, 0));
        }
        due.is("TREE", x.about(8), cells.length);
        for (int cell = 0; cell < 9; cell++) {
            due.is("check of " + cell, Given.tree(3, -1, cell).check(1), told(4, 0));
        }
    }

    private static void plantLeavesTheRest() {
        due.by("15: an entry comes, and nothing else changes");
        Given.states().forEach((state, made) -> {
            twins.unchanged(state + ", plant and prune", made, x -> {
                int entries = x.about(8);
                due.is(state + ", plant", x.plant(-1, 0), entries);
                due.is(state + ", plant behind it", x.plant(entries, 1), entries + 1);
                due.is(state + ", prune", x.prune(entries), entries);
            });
        });
    }

    /**
     * A tree of 8000 entries, on the board of size 2. More calls than the document's 512 make it,
     * for no strategy of a search is so long that 512 would do.
     */
    private static HexTable fullTree() {
        HexTable x = Given.tree(2, -1, 1, 0, 0, 0, 2, 2, 3, 0, 3, 4, 2);
        for (int i = 6; i < MOST - 1; i++) {
            due.is("plant " + i, x.plant(5, i), i);
        }
        due.is("plant the last", x.plant(1, 99), MOST - 1);
        return x;
    }

    private static void plantWhenThereAre8000() {
        due.by("15: NONE, and none comes: there are 8000");
        HexTable x = fullTree();
        int[] ahead = {Integer.MIN_VALUE, -2, -1, 0, MOST - 1, MOST, Integer.MAX_VALUE};
        for (int i : ahead) {
            due.is("plant(" + i + ", 0)", x.plant(i, 0), -1);
        }
        due.is("TREE", x.about(8), MOST);
        due.is("the last one stays", x.check(1), told(1, MOST - 1));
        x.graft(MOST - 1, 2);
        due.is("the others stay", x.check(1), told(2, 5));
    }

    private static void plantWhereThereWere8000() {
        due.by("15: there are 8000: not any more");
        HexTable x = fullTree();
        due.is("prune", x.prune(MOST - 1), MOST - 1);
        due.is("one is missing", x.check(1), told(3, 1));
        due.is("not behind the one that is gone", x.plant(MOST - 1, 2), -1);
        due.is("plant", x.plant(1, 98), MOST - 1);
        due.is("the new one is there", x.check(1), told(1, MOST - 1));
        due.is("no more", x.plant(1, 2), -1);
        x.search(8000);
        due.is("load over a full one", x.load(), 7);
        due.is("check", x.check(1), 0);
        due.is("plant", x.plant(6, 0), 7);
    }

    private static void graftNoneSuch() {
        due.by("16: False: there is none such");
        twins.unchangedInEveryState("graft", x -> {
            int entries = x.about(8);
            for (int i : Given.notBelow(entries)) {
                due.is("graft(" + i + ", 0)", x.graft(i, 0), false);
                due.is("graft(" + i + ", min)", x.graft(i, Integer.MIN_VALUE), false);
            }
        });
    }

    private static void graftInAnEmptyTree() {
        due.by("16: False: there is none such: an empty TREE");
        HexTable x = new HexTable(2);
        due.is("new", x.graft(0, 0), false);
        x.plant(-1, 1);
        x.prune(0);
        due.is("pruned", x.graft(0, 0), false);
        due.is("TREE", x.about(8), 0);
        due.is("planted later", x.plant(-1, 1), 0);
        due.is("is there", x.graft(0, 9), true);
        due.is("check", x.check(1), told(1, 0));
    }

    private static void graftAnyCell() {
        due.by("16: Entry i of the TREE gets another cell (any int): true");
        int[] cells = {Integer.MIN_VALUE, Integer.MIN_VALUE + 1, -4, -1, 4, 121, 1 << 16, Integer.MAX_VALUE};
        int[] seen = {0, 2, 4, 6};
        for (int cell : cells) {
            for (int i : seen) {
                HexTable x = Given.goodTree();
                due.is("graft(" + i + ", " + cell + ")", x.graft(i, cell), true);
                due.is("seen at " + i, x.check(1), told(1, i));
                due.is("TREE", x.about(8), 7);
            }
        }
        HexTable same = Given.goodTree();
        due.is("the same cell", same.graft(0, 1), true);
        due.is("check", same.check(1), 0);
        due.is("the last one", same.graft(6, 3), true);
        due.is("check", same.check(1), told(1, 6));
    }

    private static void graftKeepsWhatIsAhead() {
        due.by("16: Entry i gets another cell: it comes behind the same one");
        HexTable x = Given.goodTree();
        x.graft(1, 2);
        x.graft(2, 3);
        x.graft(3, 0);
        x.graft(4, 2);
        due.is("two that come behind 0 have changed places", x.check(1), 0);
        x.graft(2, 0);
        due.is("then one that does not win", x.check(1), told(4, 2));
    }

    private static void graftTheLastOf8000() {
        due.by("16: True for the last one, false for the one behind it: a full TREE");
        HexTable x = fullTree();
        due.is("the last one", x.graft(MOST - 1, 2), true);
        due.is("behind it", x.graft(MOST, 2), false);
        due.is("check", x.check(1), told(2, 5));
    }

    private static void pruneTooMany() {
        due.by("17: NONE, and nothing is done, if it has not so many");
        twins.unchangedInEveryState("prune", x -> {
            int entries = x.about(8);
            int[] more = {entries + 1, entries + 2, MOST, MOST + 1, Integer.MAX_VALUE - 1, Integer.MAX_VALUE};
            for (int n : more) {
                due.is("prune(" + n + ") of " + entries, x.prune(n), -1);
            }
        });
    }

    private static void pruneBelowZero() {
        due.by("17: NONE, and nothing is done, if .. n is below 0");
        int[] below = {Integer.MIN_VALUE, Integer.MIN_VALUE + 1, -MOST, -2, -1};
        twins.unchangedInEveryState("prune", x -> {
            for (int n : below) {
                due.is("prune(" + n + ")", x.prune(n), -1);
            }
        });
    }

    private static void pruneToNone() {
        due.by("17: The TREE has its first n entries alone: n: none");
        HexTable x = Given.goodTree();
        due.is("prune(0)", x.prune(0), 0);
        due.is("TREE", x.about(8), 0);
        due.is("check(1)", x.check(1), 3);
        due.is("check(2)", x.check(2), 4);
        due.is("prune(0) again", x.prune(0), 0);
        due.is("of a new one", new HexTable(2).prune(0), 0);
    }

    private static void pruneToAll() {
        due.by("17: The TREE has its first n entries alone: n: all");
        twins.unchangedInEveryState("prune to all", x -> {
            int entries = x.about(8);
            due.is("prune(" + entries + ")", x.prune(entries), entries);
        });
    }

    private static void pruneOneByOne() {
        due.by("17: The TREE has its first n entries alone: n: every n");
        int[] wrong = {3, told(4, 0), told(4, 0), told(4, 0), told(4, 0), told(4, 0), told(3, 5), 0};
        for (int n = 0; n <= 7; n++) {
            HexTable x = Given.goodTree();
            due.is("prune(" + n + ")", x.prune(n), n);
            due.is("TREE of " + n, x.about(8), n);
            due.is("check of " + n, x.check(1), wrong[n]);
            due.is("not the next one", x.graft(n, 0), false);
            due.is("not so many any more", x.prune(n + 1), -1);
        }
    }

    private static void prunedEntriesAreGone() {
        due.by("17: alone: what was pruned does not come again");
        HexTable x = Given.goodTree();
        x.prune(5);
        due.is("not behind one that is gone", x.plant(5, 2), -1);
        due.is("the next number", x.plant(0, 3), 5);
        due.is("nothing behind it yet", x.check(1), told(3, 5));
        due.is("the next number", x.plant(5, 2), 6);
        due.is("check", x.check(1), 0);
        x.prune(1);
        due.is("behind the first again", x.plant(0, 3), 1);
        due.is("its own alone", x.check(1), told(4, 0));
    }

    private static void pruneOf8000() {
        due.by("17: if it has not so many: a full TREE");
        HexTable x = fullTree();
        due.is("prune(8001)", x.prune(MOST + 1), -1);
        due.is("prune(8000)", x.prune(MOST), MOST);
        due.is("TREE", x.about(8), MOST);
        due.is("prune(7999)", x.prune(MOST - 1), MOST - 1);
        due.is("prune(8000)", x.prune(MOST), -1);
        due.is("prune(0)", x.prune(0), 0);
        due.is("check", x.check(1), 3);
    }

    private static void manyEntries() {
        due.by("An object is used for at most 512 calls after it has been made");
        HexTable x = new HexTable(11);
        for (int i = 0; i < 510; i++) {
            due.is("plant " + i, x.plant(i - 1, i), i);
        }
        due.is("TREE, call 511", x.about(8), 510);
        due.is("check, call 512", x.check(1), told(4, 0));
    }
}
