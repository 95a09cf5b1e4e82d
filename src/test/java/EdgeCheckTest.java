import java.util.Arrays;

/**
 * The boundary cases of Terms IV and of promise 18: check. On size 2 the cells are 0 1 / 2 3; side 1
 * joins 0-2, 1-3 and 1-2, side 2 joins 0-1, 2-3 and 1-2.
 */
public final class EdgeCheckTest {
    private static final Due due = new Due("EdgeCheckTest");
    private static final Twins twins = new Twins(due);

    public static void main(String[] args) {
        noSide();
        somebodyWins();
        emptyTree();
        taken();
        oneEmptyCell();
        cellsThatAreNone();
        cellsWithStonesOfTheBoard();
        cellsWithStonesOfTheTree();
        stonesOfOtherWaysAreTakenBack();
        entriesBehindAWin();
        noneOrTwoWhereJustOne();
        noneOrTooFewWhereEach();
        tooManyWhereEach();
        theOtherWins();
        playThatCannotBeComesFirst();
        theOthersWinComesNext();
        rootComesFirst();
        fourAheadOfWhatComesBehind();
        entriesByTheirNumbers();
        withAllThatComesBehindIt();
        entriesAreToldFromOne();
        treesOfEveryLength();
        lastOf8000();
        boardAsItIs();
        longWayDown();
        longWayUp();
        everyEntryOfAStrategyCounts();
        checkingChangesNothing();
        due.end();
    }

    private static int told(int wrong, int entry) {
        return wrong + 16 * (entry + 1);
    }

    /** Side 2's strategy for the empty board of size 2, if it begins. */
    private static HexTable goodTreeOfTwo() {
        HexTable x = Given.tree(2, -1, 1, 0, 0, 1, 2, 0, 2, 3, 0, 0, 3, 5, 2);
        x.turn(2);
        return x;
    }

    private static void noSide() {
        due.by("18: NONE for no side");
        twins.unchangedInEveryState("check of no side", x -> {
            for (int side : Given.noSides()) {
                due.is("check(" + side + ")", x.check(side), -1);
            }
        });
    }

    private static void somebodyWins() {
        due.by("18: NONE .. if somebody WINS on the board as it is");
        twins.unchangedWhereSomebodyWins("check", x -> {
            due.is("check(1)", x.check(1), -1);
            due.is("check(2)", x.check(2), -1);
            x.plant(-1, 0);
            due.is("check(1) of another tree", x.check(1), -1);
            x.prune(x.about(8) - 1);
        });
        HexTable x = Given.goodTree();
        x.play(1, 0);
        x.play(0, 0);
        x.play(1, 1);
        due.is("won by plays", x.check(1), -1);
        x.undo();
        due.is("taken back, its first cell has a stone", x.check(1), told(1, 0));
    }

    private static void emptyTree() {
        due.by("IV: where it is the side's TURN .. not just one entry; the other's .. not just one for each: an empty TREE");
        for (int size = 1; size <= 11; size++) {
            for (int turn = 1; turn <= 2; turn++) {
                HexTable x = new HexTable(size);
                x.turn(turn);
                due.is("its own TURN", x.check(turn), 3);
                due.is("the other's TURN", x.check(3 - turn), 4);
            }
        }
    }

    private static void taken() {
        due.by("18: 0, if it is taken");
        due.is("side 1", Given.goodTree().check(1), 0);
        due.is("side 2", goodTreeOfTwo().check(2), 0);
        due.is("side 1's tree isn't side 2's", Given.goodTree().check(2), 4);
        due.is("side 2's tree isn't side 1's", goodTreeOfTwo().check(1), 4);
        HexTable second = Given.tree(2, -1, 0, 0, 2, -1, 2, 2, 3, -1, 3, 4, 2);
        second.set(1, 0, 1);
        second.turn(2);
        due.is("the other one begins", second.check(1), 0);
    }

    private static void oneEmptyCell() {
        due.by("IV: not just one for each EMPTY cell: just one is left");
        for (int size = 1; size <= 11; size++) {
            for (int turn = 1; turn <= 2; turn++) {
                HexTable x = Given.playedToTheLastCell(size, 1);
                x.turn(turn);
                due.is("none", x.check(turn), 3);
                due.is("none for the other", x.check(3 - turn), 4);
                x.plant(-1, Given.middle(size));
                due.is("it wins", x.check(turn), 0);
                due.is("it wins against the other", x.check(3 - turn), told(5, 0));
                x.graft(0, size * size);
                due.is("no cell", x.check(turn), told(1, 0));
                due.is("no cell for the other", x.check(3 - turn), 4);
                x.graft(0, Given.middle(size));
                x.plant(-1, Given.middle(size));
                due.is("twice", x.check(turn), 3);
                due.is("twice for the other", x.check(3 - turn), 4);
            }
        }
    }

    private static void cellsThatAreNone() {
        due.by("IV: 1 a play that can't be (no cell ..), at it");
        for (int size = 2; size <= 11; size++) {
            int cells = size * size;
            int[] none = {Integer.MIN_VALUE, Integer.MIN_VALUE + 1, -cells, -1, cells, cells + 1, 121, 1 << 16,
                Integer.MAX_VALUE - 1, Integer.MAX_VALUE};
            for (int cell : none) {
                due.is("cell " + cell + " of " + size, Given.tree(size, -1, cell).check(1), told(1, 0));
            }
            due.is("the first cell", Given.tree(size, -1, 0).check(1), told(4, 0));
            due.is("the last cell", Given.tree(size, -1, cells - 1).check(1), told(4, 0));
        }
        int[] none = {Integer.MIN_VALUE, -1, 4, 5, Integer.MAX_VALUE};
        int[] own = {0, 2, 4, 6};
        for (int cell : none) {
            for (int entry : own) {
                HexTable x = Given.goodTree();
                x.graft(entry, cell);
                due.is("cell " + cell + " at " + entry, x.check(1), told(1, entry));
            }
        }
    }

    private static void cellsWithStonesOfTheBoard() {
        due.by("IV: 1 a play that can't be (.. not EMPTY), at it: a stone of the board");
        for (int size = 2; size <= 11; size++) {
            for (int side = 1; side <= 2; side++) {
                HexTable x = new HexTable(size);
                x.set(size - 1, size - 1, side);
                x.plant(-1, size * size - 1);
                due.is("stone of " + side, x.check(1), told(1, 0));
                x.turn(2);
                due.is("stone of " + side, x.check(2), told(1, 0));
                x.set(size - 1, size - 1, 0);
                due.is("EMPTY again", x.check(2), told(4, 0));
            }
        }
    }

    private static void cellsWithStonesOfTheTree() {
        due.by("IV: 1 a play that can't be (.. not EMPTY), at it: a stone of a play ahead");
        int[][] graft = {{2, 0}, {2, 1}, {4, 2}, {4, 1}, {6, 3}, {6, 1}};
        for (int[] g : graft) {
            HexTable x = Given.goodTree();
            x.graft(g[0], g[1]);
            due.is("cell " + g[1] + " at " + g[0], x.check(1), told(1, g[0]));
        }
    }

    private static void stonesOfOtherWaysAreTakenBack() {
        due.by("IV: from the board as it is: stones of other ways don't count");
        HexTable x = Given.goodTree();
        x.graft(6, 0);
        due.is("a cell of another way, which does not win", x.check(1), told(4, 6));
        x.graft(6, 2);
        due.is("a cell of another way, which wins", x.check(1), 0);
        due.is("again", x.check(1), 0);
    }

    private static void entriesBehindAWin() {
        due.by("IV: 2 entries behind one at which some side WINS, at that");
        int[] wins = {2, 4, 6};
        for (int entry : wins) {
            HexTable x = Given.goodTree();
            x.plant(entry, 0);
            due.is("behind " + entry, x.check(1), told(2, entry));
            x.graft(7, Integer.MIN_VALUE);
            due.is("whatever it is, behind " + entry, x.check(1), told(2, entry));
            x.plant(entry, 3);
            due.is("two behind " + entry, x.check(1), told(2, entry));
        }
        HexTable two = goodTreeOfTwo();
        two.plant(4, 3);
        due.is("side 2", two.check(2), told(2, 4));
        due.is("one cell", Given.tree(1, -1, 0, 0, 0).check(1), told(2, 0));
    }

    private static void noneOrTwoWhereJustOne() {
        due.by("IV: 3 where it is the side's TURN and nobody WINS, not just one entry, at that");
        HexTable x = Given.goodTree();
        x.plant(-1, 0);
        due.is("two at the root", x.check(1), 3);
        int[] entries = {1, 3, 5};
        for (int entry : entries) {
            HexTable two = Given.goodTree();
            two.plant(entry, 0);
            due.is("two behind " + entry, two.check(1), told(3, entry));
            two.graft(7, Integer.MAX_VALUE);
            due.is("one of them can't be, behind " + entry, two.check(1), told(3, entry));
        }
        due.is("none behind 5", Given.tree(2, -1, 1, 0, 0, 1, 2, 0, 2, 3, 3, 0, 3).check(1), told(3, 5));
        due.is("none behind 1", Given.tree(2, -1, 1, 0, 0, 0, 2, 2, 3, 0, 3, 4, 2).check(1), told(3, 1));
        HexTable same = Given.tree(2, -1, 1, -1, 1);
        due.is("the same one twice", same.check(1), 3);
    }

    private static void noneOrTooFewWhereEach() {
        due.by("IV: 4 where it is the other's TURN and nobody WINS, not just one for each EMPTY cell, at that");
        due.is("none", Given.tree(2, -1, 1).check(1), told(4, 0));
        due.is("one", Given.tree(2, -1, 1, 0, 0, 1, 2).check(1), told(4, 0));
        due.is("one too few", Given.tree(2, -1, 1, 0, 0, 1, 2, 0, 2, 3, 3).check(1), told(4, 0));
        due.is("one too few at the root", Given.tree(2, -1, 0, -1, 1, -1, 2).check(2), 4);
        due.is("each at the root", Given.tree(2, -1, 0, -1, 1, -1, 2, -1, 3).check(2), told(3, 0));
        due.is("each in another order", Given.tree(2, -1, 3, -1, 0, -1, 2, -1, 1).check(2), told(3, 0));
        for (int size = 3; size <= 11; size++) {
            HexTable x = new HexTable(size);
            for (int cell = 0; cell < size * size - 1; cell++) {
                x.plant(-1, cell);
            }
            due.is("one too few of " + size, x.check(2), 4);
            x.plant(-1, size * size - 1);
            due.is("each of " + size, x.check(2), told(3, 0));
            x.set(0, 0, 1);
            due.is("one too many of " + size, x.check(2), 4);
        }
    }

    private static void tooManyWhereEach() {
        due.by("IV: 4 ..: also a play there that can't be, or comes twice");
        int[] none = {Integer.MIN_VALUE, -1, 1, 4, Integer.MAX_VALUE};
        int[] replies = {1, 3, 5};
        for (int cell : none) {
            for (int entry : replies) {
                HexTable x = Given.goodTree();
                x.graft(entry, cell);
                due.is("cell " + cell + " in place of " + entry, x.check(1), told(4, 0));
            }
            HexTable more = Given.goodTree();
            more.plant(0, cell);
            due.is("cell " + cell + " beside them", more.check(1), told(4, 0));
        }
        int[] cells = {0, 2, 3};
        for (int cell : cells) {
            HexTable twice = Given.goodTree();
            twice.plant(0, cell);
            due.is("twice " + cell, twice.check(1), told(4, 0));
        }
        HexTable inPlace = Given.goodTree();
        inPlace.graft(5, 0);
        due.is("one twice in place of another", inPlace.check(1), told(4, 0));
    }

    private static void theOtherWins() {
        due.by("IV: 5 the other side WINS at one");
        HexTable x = Given.tree(2, -1, 0, 0, 1, 0, 2, 0, 3, 1, 3, 4, 2);
        due.is("side 2 WINS at 5", x.check(1), told(5, 5));
        x.turn(2);
        x.graft(1, 2);
        x.graft(2, 1);
        x.graft(5, 1);
        due.is("side 1 WINS at 5", x.check(2), told(5, 5));
        due.is("one cell", Given.tree(1, -1, 0).check(2), told(5, 0));
    }

    private static void playThatCannotBeComesFirst() {
        due.by("IV: Of one entry 1 first");
        HexTable four = Given.goodTree();
        four.graft(0, 4);
        four.plant(0, 9);
        due.is("ahead of 4", four.check(1), told(1, 0));
        HexTable two = Given.goodTree();
        two.graft(2, 1);
        two.plant(2, 3);
        due.is("ahead of 2", two.check(1), told(1, 2));
        due.is("ahead of what comes behind", Given.tree(1, -1, 1, 0, 0).check(1), told(1, 0));
        HexTable stone = Given.tree(3, -1, 4);
        stone.set(1, 1, 2);
        due.is("ahead of 4, a stone", stone.check(1), told(1, 0));
    }

    private static void theOthersWinComesNext() {
        due.by("IV: Of one entry .. then 5, 2, 3, 4");
        HexTable x = Given.tree(2, -1, 0, 0, 1, 0, 2, 0, 3, 1, 3, 4, 2, 5, 9);
        due.is("5 ahead of 2", x.check(1), told(5, 5));
        due.is("one cell", Given.tree(1, -1, 0, 0, 0, 0, 0).check(2), told(5, 0));
        HexTable win = Given.goodTree();
        win.plant(2, 3);
        win.plant(2, 3);
        due.is("2, not 3 or 4, behind a win", win.check(1), told(2, 2));
    }

    private static void rootComesFirst() {
        due.by("IV: the first one going down from the root");
        HexTable three = Given.goodTree();
        three.graft(0, 9);
        three.plant(-1, 1);
        due.is("3 of the root ahead of 1", three.check(1), 3);
        HexTable four = Given.tree(2, -1, 9, -1, 1, -1, 2, -1, 3);
        due.is("4 of the root ahead of 1", four.check(2), 4);
        HexTable deeper = Given.goodTree();
        deeper.graft(2, 9);
        deeper.plant(1, 3);
        due.is("3 of an entry ahead of 1 behind it", deeper.check(1), told(3, 1));
    }

    private static void fourAheadOfWhatComesBehind() {
        due.by("IV: 4 ahead of what comes behind");
        HexTable x = Given.goodTree();
        x.graft(2, 9);
        x.prune(5);
        due.is("ahead of 1 behind the first of them", x.check(1), told(4, 0));
        x.plant(0, 3);
        due.is("then what comes behind", x.check(1), told(1, 2));
        x.graft(2, 2);
        due.is("then none behind the last", x.check(1), told(3, 5));
    }

    private static void entriesByTheirNumbers() {
        due.by("IV: entry by entry behind one in the order of their numbers");
        HexTable x = Given.tree(2, -1, 1, 0, 3, 0, 2, 0, 0, 3, 9, 2, 9, 1, 9);
        due.is("not by their cells: entry 1, cell 3", x.check(1), told(1, 6));
        x.graft(6, 2);
        due.is("then entry 2, cell 2", x.check(1), told(1, 5));
        x.graft(5, 3);
        due.is("then entry 3, cell 0", x.check(1), told(1, 4));
        x.graft(4, 2);
        due.is("taken", x.check(1), 0);
    }

    private static void withAllThatComesBehindIt() {
        due.by("IV: each with all that comes behind it");
        HexTable x = Given.tree(2, -1, 1, 0, 0, 0, 2, 0, 3, 2, 9, 1, 2, 5, 9);
        due.is("behind 1 comes 5, which wins, and 6 behind that", x.check(1), told(2, 5));
        x.prune(6);
        due.is("then 4, behind 2", x.check(1), told(1, 4));
        x.graft(4, 3);
        due.is("then none behind 3", x.check(1), told(3, 3));
    }

    private static void entriesAreToldFromOne() {
        due.by("IV: The root is told as entry 0, entry i as i + 1; 18: 16 times the entry that is told");
        due.is("the root", new HexTable(3).check(1), 3);
        due.is("entry 0", Given.tree(3, -1, 9).check(1), 17);
        HexTable x = new HexTable(3);
        x.search(8000);
        int last = x.load() - 1;
        due.is("a long strategy", last > 100, true);
        x.graft(last, 9);
        due.is("its last entry", x.check(1), told(1, last));
    }

    /** The last entry is the one that is looked at early, and has none behind it. */
    private static void treesOfEveryLength() {
        due.by("IV: a TREE of entries: of any length, its last one counts");
        for (int length = 8; length <= 500; length++) {
            HexTable x = Given.tree(2, -1, 1, 0, 0, 0, 2, 2, 3, 0, 3, 4, 2);
            for (int i = 6; i < length - 1; i++) {
                x.plant(5, 0);
            }
            due.is("length " + length, x.plant(1, 2), length - 1);
            due.is("the last one wins, " + length, x.check(1), told(2, 5));
            x.graft(length - 1, 4);
            due.is("the last one can't be, " + length, x.check(1), told(1, length - 1));
        }
    }

    /** More calls than the document's 512: the tree can't be so full with fewer. */
    private static void lastOf8000() {
        due.by("IV: a TREE of entries, as the STRATEGY's (8000 at most)");
        HexTable x = Given.tree(2, -1, 1, 0, 0, 0, 2, 2, 3, 0, 3, 4, 2);
        for (int i = 6; i < 7999; i++) {
            x.plant(5, 0);
        }
        due.is("the last one", x.plant(1, 4), 7999);
        due.is("is told", x.check(1), 128001);
        x.graft(7999, 2);
        due.is("then those behind 5", x.check(1), told(2, 5));
        due.is("for side 2", x.check(2), 4);
        x.prune(0);
        for (int i = 0; i < 8000; i++) {
            x.plant(-1, i % 4);
        }
        due.is("all behind the root", x.check(1), 3);
        due.is("all behind the root, for side 2", x.check(2), 4);
        x.prune(0);
        for (int i = 0; i < 8000; i++) {
            x.plant(i - 1, i % 4);
        }
        due.is("all in one row", x.check(1), told(4, 0));
    }

    private static void boardAsItIs() {
        due.by("IV: For a side, from the board as it is");
        HexTable x = Given.goodTree();
        x.set(0, 1, 2);
        due.is("a stone more", x.check(1), told(4, 0));
        x.set(0, 1, 0);
        due.is("EMPTY again", x.check(1), 0);
        x.play(1, 0);
        due.is("behind the first play", x.check(1), 4);
        x.undo();
        due.is("taken back", x.check(1), 0);
        x.turn(2);
        due.is("the other's TURN", x.check(1), 4);
        due.is("side 2 plays it", x.check(2), told(4, 4));
        x.turn(1);
        due.is("side 1's again", x.check(1), 0);
    }

    /**
     * A tree for side 1 that has, down to the last cell, each reply of side 2, but goes on behind the
     * first of them alone.
     */
    private static HexTable oneWayDown(int size, int begins) {
        int[] plays = Arrays.copyOf(Given.playsToTheLastCell(size, begins), size * size);
        plays[size * size - 1] = Given.middle(size);
        HexTable x = new HexTable(size);
        x.turn(begins);
        int ahead = -1;
        for (int k = 0; k < plays.length; k++) {
            int next = x.plant(ahead, plays[k]);
            boolean others = (k % 2 == 0) == (begins == 2);
            for (int j = k + 1; others && j < plays.length; j++) {
                x.plant(ahead, plays[j]);
            }
            ahead = next;
        }
        return x;
    }

    private static void longWayDown() {
        due.by("IV: going down from the root: to the last cell, at which the other side WINS");
        int[] sizes = {2, 4, 6};
        for (int size : sizes) {
            HexTable x = oneWayDown(size, 1);
            int last = x.about(8) - 1;
            due.is("the deepest entry of " + size, x.check(1), told(5, last));
            x.graft(last, -1);
            due.is("no such play there, " + size, x.check(1), told(4, x.about(8) - 2));
        }
        int[] odd = {3, 5};
        for (int size : odd) {
            HexTable x = oneWayDown(size, 2);
            due.is("the deepest entry of " + size, x.check(1), told(5, x.about(8) - 1));
        }
    }

    /** The deepest play wins for side 1; of the two replies ahead of it the other one wins for side 2. */
    private static void longWayUp() {
        due.by("IV: entry by entry behind one: up again from the last cell");
        int[] sizes = {2, 4, 6};
        for (int size : sizes) {
            HexTable x = oneWayDown(size, 2);
            due.is("the last reply but one of " + size, x.check(1), told(5, x.about(8) - 2));
            x.plant(x.about(8) - 1, 0);
            due.is("something behind the deepest of " + size, x.check(1), told(2, x.about(8) - 2));
        }
    }

    private static void everyEntryOfAStrategyCounts() {
        due.by("18: What the checker finds of the TREE for a side: a strategy without one of its plays isn't taken");
        for (int turn = 1; turn <= 2; turn++) {
            HexTable found = new HexTable(3);
            found.turn(turn);
            found.search(8000);
            int entries = found.load();
            due.is("the whole strategy", found.check(turn), 0);
            due.is("isn't the other's", found.check(3 - turn), 4);
            for (int i = 0; i < Math.min(150, entries); i++) {
                int cell = found.strategy(i, 1);
                found.graft(i, -1);
                due.is("without entry " + i, found.check(turn) > 0, true);
                found.graft(i, cell);
            }
            due.is("whole again", found.check(turn), 0);
        }
    }

    private static void checkingChangesNothing() {
        due.by("18: what is only looked at stays");
        twins.unchangedInEveryState("check", x -> {
            x.check(1);
            x.check(2);
            x.check(1);
        });
    }
}
