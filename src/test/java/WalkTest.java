/** Promises 9 and 10: walk, step. */
public final class WalkTest {
    private static final Due due = new Due("WalkTest");

    public static void main(String[] args) {
        oneCell();
        notFull();
        wrongSteps();
        everyFullBoardHasItsWinner();
        largeBoards();
        longWalk();
        due.end();
    }

    private static void walkIs(String name, HexTable x, int[][] want) {
        due.is(name + " walk", x.walk(), want.length);
        for (int i = 0; i < want.length; i++) {
            for (int what = 0; what < 3; what++) {
                due.is(name + " step(" + i + ", " + what + ")", x.step(i, what), want[i][what]);
            }
        }
        due.is(name + " beyond", x.step(want.length, 0), -3);
    }

    private static void oneCell() {
        HexTable x = new HexTable(1);
        x.set(0, 0, 2);
        walkIs("side 2", x, new int[][] {{0, 0, 2}, {1, -1, 1}, {1, 0, 2}, {2, -1, 0}});
        x.set(0, 0, 1);
        walkIs("side 1", x, new int[][] {{0, 0, 1}, {-1, 1, 1}, {-2, 1, 0}});
    }

    private static void notFull() {
        HexTable x = new HexTable(2);
        due.is("empty board", x.walk(), -1);
        due.is("empty board", x.step(0, 0), -3);
        x.set(0, 0, 1);
        x.set(0, 1, 1);
        x.set(1, 0, 2);
        due.is("one is empty", x.walk(), -1);
        for (int what = 0; what < 3; what++) {
            due.is("one is empty", x.step(0, what), -3);
        }
        x.set(1, 1, 2);
        due.is("full", x.walk() > 0, true);
        due.is("full", x.step(0, 2), 1);
    }

    private static void wrongSteps() {
        HexTable x = new HexTable(1);
        x.play(0, 0);
        int[] none = {Integer.MIN_VALUE, -1, 3, 4, 999, 1000, Integer.MAX_VALUE};
        for (int i : none) {
            for (int what = 0; what < 3; what++) {
                due.is("step(" + i + ", " + what + ")", x.step(i, what), -3);
            }
        }
        int[] whats = {Integer.MIN_VALUE, -1, 3, Integer.MAX_VALUE};
        for (int what : whats) {
            due.is("step(0, " + what + ")", x.step(0, what), -3);
        }
    }

    private static void endsWithWinner(String name, HexTable x, int size) {
        int last = x.walk() - 1;
        boolean two = x.about(3) == 2;
        due.is(name + " has a winner", x.about(3) != 0, true);
        due.is(name + " end x", x.step(last, 0), two ? size + 1 : -2);
        due.is(name + " end y", x.step(last, 1), two ? -1 : size);
        due.is(name + " end side", x.step(last, 2), 0);
        due.is(name + " begin x", x.step(0, 0), 0);
        due.is(name + " begin y", x.step(0, 1), 0);
    }

    private static void everyFullBoardHasItsWinner() {
        for (int size = 1; size <= 3; size++) {
            for (int stones = 0; stones < 1 << size * size; stones++) {
                HexTable x = new HexTable(size);
                for (int place = 0; place < size * size; place++) {
                    x.set(place % size, place / size, 1 + (stones >> place & 1));
                }
                endsWithWinner(size + " board " + stones, x, size);
            }
        }
    }

    private static void largeBoards() {
        int seed = 7;
        for (int size = 4; size <= 11; size++) {
            for (int n = 0; n < 40; n++) {
                HexTable x = new HexTable(size);
                for (int place = 0; place < size * size; place++) {
                    seed = seed * 1103515245 + 12345;
                    x.set(place % size, place / size, 1 + (seed >>> 20 & 1));
                }
                endsWithWinner(size + " large board " + n, x, size);
            }
        }
    }

    /** Columns of side 1 hang from the upper edge like a comb: a walk down and up along each of them. */
    private static void longWalk() {
        HexTable x = new HexTable(11);
        for (int place = 0; place < 121; place++) {
            int column = place % 11;
            int line = place / 11;
            boolean wall = column % 2 == 1 && line < 10;
            x.set(column, line, wall ? 1 : 2);
        }
        endsWithWinner("winding", x, 11);
        due.is("winding walk is long", x.walk() > 200, true);
    }
}
