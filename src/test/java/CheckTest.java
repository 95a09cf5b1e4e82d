/** Promise 18: check. On size 2 the cells are 0 1 / 2 3; side 1 joins 0-2, 1-3 and 1-2, side 2 joins 0-1, 2-3 and 1-2. */
public final class CheckTest {
    private static final Due due = new Due("CheckTest");

    public static void main(String[] args) {
        wrongSides();
        somebodyWins();
        emptyTree();
        taken();
        playThatCannotBe();
        entriesBehindAWin();
        notJustOne();
        notOneForEach();
        theOtherWins();
        orderOfFaults();
        orderOfEntries();
        boardAsItIs();
        boardStays();
        longWay();
        due.end();
    }

    private static HexTable tree(int size, int... entries) {
        HexTable x = new HexTable(size);
        for (int k = 0; k + 1 < entries.length; k += 2) {
            x.plant(entries[k], entries[k + 1]);
        }
        return x;
    }

    /** The strategy of side 1 on the empty board of size 2. */
    private static HexTable good() {
        return tree(2, -1, 1, 0, 0, 1, 2, 0, 2, 3, 3, 0, 3, 5, 2);
    }

    private static int told(int wrong, int entry) {
        return wrong + 16 * (entry + 1);
    }

    private static void wrongSides() {
        HexTable x = good();
        int[] none = {Integer.MIN_VALUE, -1, 0, 3, Integer.MAX_VALUE};
        for (int side : none) {
            due.is("check(" + side + ")", x.check(side), -1);
        }
    }

    private static void somebodyWins() {
        HexTable x = good();
        x.set(0, 0, 1);
        x.set(0, 1, 1);
        due.is("1 wins", x.check(1), -1);
        due.is("1 wins", x.check(2), -1);
        x.set(1, 0, 2);
        x.set(0, 1, 2);
        due.is("2 wins", x.check(1), -1);
        due.is("2 wins", x.check(2), -1);
    }

    private static void emptyTree() {
        HexTable x = new HexTable(2);
        due.is("1's turn", x.check(1), 3);
        due.is("1's turn", x.check(2), 4);
        x.turn(2);
        due.is("2's turn", x.check(1), 4);
        due.is("2's turn", x.check(2), 3);
    }

    private static void taken() {
        due.is("good", good().check(1), 0);
        due.is("not for 2", good().check(2), 4);
        HexTable x = tree(1, -1, 0);
        due.is("one cell", x.check(1), 0);
        x.turn(2);
        due.is("one cell of 2", x.check(2), 0);
        due.is("not for 1", x.check(1), told(5, 0));
        HexTable z = tree(2, -1, 0, 0, 2, -1, 2, 2, 3, -1, 3, 4, 2);
        z.set(1, 0, 1);
        z.turn(2);
        due.is("the other begins", z.check(1), 0);
    }

    private static void playThatCannotBe() {
        int[] cells = {Integer.MIN_VALUE, -1, 4, 5, Integer.MAX_VALUE};
        for (int cell : cells) {
            HexTable x = good();
            x.graft(0, cell);
            due.is("no cell " + cell, x.check(1), told(1, 0));
            x = good();
            x.graft(4, cell);
            due.is("no cell " + cell, x.check(1), told(1, 4));
        }
        HexTable x = good();
        x.graft(6, 1);
        due.is("own stone", x.check(1), told(1, 6));
        x.graft(6, 3);
        due.is("other's stone", x.check(1), told(1, 6));
        x.graft(6, 2);
        due.is("stones are taken back", x.check(1), 0);
        x.set(0, 1, 2);
        due.is("4 is told of what is set", x.check(1), told(4, 0));
        x.set(1, 0, 1);
        due.is("stone on the board", x.check(1), told(1, 0));
    }

    private static void entriesBehindAWin() {
        HexTable x = good();
        x.plant(2, 3);
        due.is("behind entry 2", x.check(1), told(2, 2));
        x = good();
        x.plant(6, 0);
        due.is("behind the last", x.check(1), told(2, 6));
        x.plant(2, 99);
        due.is("what comes behind isn't looked at", x.check(1), told(2, 2));
    }

    private static void notJustOne() {
        HexTable x = good();
        x.plant(-1, 0);
        due.is("two at the root", x.check(1), 3);
        x = good();
        x.plant(3, 0);
        due.is("two behind 3", x.check(1), told(3, 3));
        x = good();
        x.plant(3, 3);
        due.is("the same twice", x.check(1), told(3, 3));
        x = good();
        x.prune(6);
        due.is("none behind 5", x.check(1), told(3, 5));
    }

    private static void notOneForEach() {
        due.is("none", tree(2, -1, 1).check(1), told(4, 0));
        due.is("one too few", tree(2, -1, 1, 0, 0, 1, 2, 0, 2, 3, 3).check(1), told(4, 0));
        HexTable x = good();
        x.plant(0, 0);
        due.is("one twice", x.check(1), told(4, 0));
        x = good();
        x.graft(5, 0);
        due.is("one twice, one too few", x.check(1), told(4, 0));
        x = good();
        x.plant(0, 4);
        due.is("no cell too many", x.check(1), told(4, 0));
        int[] cells = {Integer.MIN_VALUE, -1, 1, 4, Integer.MAX_VALUE};
        for (int cell : cells) {
            x = good();
            x.graft(5, cell);
            due.is("a play that can't be " + cell, x.check(1), told(4, 0));
        }
        due.is("at the root for 2", tree(2, -1, 0, -1, 1, -1, 2).check(2), 4);
        due.is("the root is covered", tree(2, -1, 3, -1, 1, -1, 2, -1, 0).check(2), told(3, 0));
    }

    private static void theOtherWins() {
        HexTable x = tree(2, -1, 0, 0, 1, 0, 2, 0, 3, 1, 3, 4, 2);
        due.is("2 wins at entry 5", x.check(1), told(5, 5));
        x.plant(5, 0);
        due.is("ahead of entries behind a win", x.check(1), told(5, 5));
        due.is("one cell", tree(1, -1, 0).check(2), told(5, 0));
        due.is("one cell", tree(1, -1, 0, 0, 0).check(2), told(5, 0));
        due.is("one cell", tree(1, -1, 0, 0, 0).check(1), told(2, 0));
    }

    private static void orderOfFaults() {
        HexTable x = good();
        x.graft(0, 7);
        x.plant(0, 8);
        due.is("1 ahead of 4", x.check(1), told(1, 0));
        x = good();
        x.graft(2, 9);
        x.plant(2, 9);
        due.is("1 ahead of 2", x.check(1), told(1, 2));
        x = good();
        x.graft(0, 7);
        x.plant(-1, 1);
        due.is("3 of the root ahead of 1", x.check(1), 3);
        x = good();
        x.graft(4, 9);
        x.plant(0, 0);
        due.is("4 ahead of what comes behind", x.check(1), told(4, 0));
        x = good();
        x.graft(2, 9);
        x.plant(1, 3);
        due.is("3 ahead of what comes behind", x.check(1), told(3, 1));
    }

    private static void orderOfEntries() {
        HexTable x = good();
        x.graft(4, 9);
        x.graft(6, 9);
        due.is("4 comes first", x.check(1), told(1, 4));
        x.graft(2, 9);
        due.is("then 2", x.check(1), told(1, 2));
        HexTable z = tree(2, -1, 1, 0, 3, 0, 2, 0, 0, 3, 9, 2, 9, 1, 9);
        due.is("behind entry 1 comes 6, ahead of entry 2", z.check(1), told(1, 6));
        z.graft(6, 2);
        due.is("behind entry 2 comes 5", z.check(1), told(1, 5));
        z.graft(5, 3);
        due.is("behind entry 3 comes 4", z.check(1), told(1, 4));
        z.graft(4, 2);
        due.is("holds", z.check(1), 0);
    }

    private static void boardAsItIs() {
        HexTable x = good();
        x.play(1, 0);
        due.is("1 has played", x.check(1), 4);
        x.undo();
        due.is("taken back", x.check(1), 0);
        x.set(0, 0, 2);
        due.is("a cell less", x.check(1), told(4, 0));
        x.set(0, 0, 0);
        x.turn(2);
        due.is("the other's turn", x.check(1), 4);
        due.is("the other's turn, its own", x.check(2), told(4, 4));
    }

    private static void boardStays() {
        HexTable x = good();
        x.set(0, 0, 2);
        x.play(1, 1);
        int[] sides = {1, 2};
        for (int side : sides) {
            x.check(side);
            due.is("set stone", x.cell(0, 0), 2);
            due.is("played stone", x.cell(1, 1), 1);
            due.is("empty", x.about(4), 2);
            due.is("turn", x.about(1), 2);
            due.is("plays", x.about(2), 1);
            due.is("tree", x.about(8), 7);
        }
        due.is("undo", x.undo(), 3);
    }

    /** A way of 121 plays down the tree: the other's last stone is told, or what is missing first. */
    private static void longWay() {
        HexTable x = new HexTable(11);
        x.plant(-1, 0);
        for (int k = 1; k < 121; k++) {
            x.plant(k - 1, k);
        }
        due.is("behind the first not each", x.check(1), told(4, 0));
        due.is("the root not each", x.check(2), 4);
    }
}
