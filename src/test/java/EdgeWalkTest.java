/** The boundary cases of Terms II and of promises 9 and 10: walk, step. */
public final class EdgeWalkTest {
    private static final Due due = new Due("EdgeWalkTest");
    private static final Twins twins = new Twins(due);

    public static void main(String[] args) {
        emptyBoard();
        oneCellIsMissing();
        stepsOfABoardThatIsNotFull();
        oneCell();
        twoLines();
        alongTheLeftEdge();
        alongTheUpperEdge();
        cellsAroundTheBoard();
        whereItEnds();
        onlyTheLastStepHasNoSide();
        numbersThatAreNoStep();
        numbersThatAreNoKind();
        asTheBoardIsNow();
        fullByPlays();
        walkingChangesNothing();
        due.end();
    }

    private static void walkIs(String name, HexTable x, int[][] want) {
        due.is(name + ", walk", x.walk(), want.length);
        for (int i = 0; i < want.length; i++) {
            for (int what = 0; what < 3; what++) {
                due.is(name + ", step(" + i + ", " + what + ")", x.step(i, what), want[i][what]);
            }
        }
        for (int what = 0; what < 3; what++) {
            due.is(name + ", behind the last", x.step(want.length, what), -3);
        }
    }

    private static void noWalk(String name, HexTable x) {
        due.is(name + ", walk", x.walk(), -1);
        for (int what = 0; what < 3; what++) {
            due.is(name + ", step(0, " + what + ")", x.step(0, what), -3);
        }
    }

    private static void emptyBoard() {
        due.by("9: NONE if the board isn't full: an empty one");
        for (int size = 1; size <= 11; size++) {
            noWalk("size " + size, new HexTable(size));
        }
    }

    private static void oneCellIsMissing() {
        due.by("9: NONE if the board isn't full: one cell is EMPTY");
        for (int size = 1; size <= 11; size++) {
            for (int place = 0; place < size * size; place++) {
                HexTable x = Given.filled(size, 1 + place % 2);
                due.is("full " + size, x.walk() > 0, true);
                x.set(place % size, place / size, 0);
                noWalk("size " + size + " without " + place, x);
            }
        }
    }

    private static void stepsOfABoardThatIsNotFull() {
        due.by("10: NONE - 2 if the board isn't full");
        HexTable x = Given.playedToTheLastCell(5, 1);
        int[] steps = {Integer.MIN_VALUE, -1, 0, 1, 2, 12, Integer.MAX_VALUE};
        int[] kinds = {Integer.MIN_VALUE, -1, 0, 1, 2, 3, Integer.MAX_VALUE};
        for (int i : steps) {
            for (int what : kinds) {
                due.is("step(" + i + ", " + what + ")", x.step(i, what), -3);
            }
        }
    }

    private static void oneCell() {
        due.by("II: The walk: at first 0, -1 and -1, 0; (at first 0, 0); size 1");
        walkIs("side 1", Given.filled(1, 1), new int[][] {{0, 0, 1}, {-1, 1, 1}, {-2, 1, 0}});
        walkIs("side 2", Given.filled(1, 2), new int[][] {{0, 0, 2}, {1, -1, 1}, {1, 0, 2}, {2, -1, 0}});
    }

    /** Each gone by hand. */
    private static void twoLines() {
        due.by("II: if that has a side, it comes in place of the one of its own side; if it has none, the walk has ended");
        walkIs("12 12", Given.board(2, "12 12"),
            new int[][] {{0, 0, 1}, {-1, 1, 2}, {0, 1, 1}, {-1, 2, 1}, {-2, 2, 0}});
        walkIs("12 21", Given.board(2, "12 21"), new int[][] {{0, 0, 1}, {-1, 1, 2}, {0, 1, 2}, {1, 0, 2}, {1, -1, 1},
            {2, -1, 1}, {2, 0, 2}, {3, -1, 0}});
        walkIs("21 12", Given.board(2, "21 12"), new int[][] {{0, 0, 2}, {1, -1, 1}, {1, 0, 1}, {0, 1, 1}, {-1, 1, 2},
            {-1, 2, 1}, {-2, 2, 0}});
        walkIs("22 11", Given.board(2, "22 11"), new int[][] {{0, 0, 2}, {1, -1, 1}, {1, 0, 2}, {2, -1, 1}, {2, 0, 2},
            {3, -1, 0}});
    }

    private static void alongTheLeftEdge() {
        due.by("II: It ends .. with x -2, y SIZE (side 1): all cells of side 1");
        for (int size = 1; size <= 11; size++) {
            int[][] want = new int[2 * size + 1][];
            for (int y = 0; y < size; y++) {
                want[2 * y] = new int[] {0, y, 1};
                want[2 * y + 1] = new int[] {-1, y + 1, y + 1 < size ? 2 : 1};
            }
            want[2 * size] = new int[] {-2, size, 0};
            walkIs("size " + size, Given.filled(size, 1), want);
        }
    }

    private static void alongTheUpperEdge() {
        due.by("II: It ends with x SIZE + 1, y -1 (side 2 WINS): all cells of side 2");
        for (int size = 1; size <= 11; size++) {
            int[][] want = new int[2 * size + 2][];
            for (int x = 0; x < size; x++) {
                want[2 * x] = new int[] {x, 0, 2};
                want[2 * x + 1] = new int[] {x + 1, -1, 1};
            }
            want[2 * size] = new int[] {size, 0, 2};
            want[2 * size + 1] = new int[] {size + 1, -1, 0};
            walkIs("size " + size, Given.filled(size, 2), want);
        }
    }

    /** A wall along the right edge leads the walk to the lower one, a wall along the lower edge to the right one. */
    private static void cellsAroundTheBoard() {
        due.by("II: Around it lie cells of side 1 (y is -1 or SIZE ..) and of side 2 (x is -1 or SIZE ..)");
        for (int size = 2; size <= 11; size++) {
            HexTable right = Given.filled(size, 2);
            HexTable lower = Given.filled(size, 1);
            for (int k = 0; k < size; k++) {
                right.set(size - 1, k, 1);
                lower.set(k, size - 1, 2);
            }
            comesBy("lower edge, size " + size, right, size - 2, size);
            due.is("1 WINS", right.about(3), 1);
            comesBy("right edge, size " + size, lower, size, size - 2);
            due.is("2 WINS", lower.about(3), 2);
        }
    }

    private static void comesBy(String name, HexTable x, int column, int line) {
        boolean came = false;
        int steps = x.walk();
        for (int i = 0; i < steps; i++) {
            came |= x.step(i, 0) == column && x.step(i, 1) == line;
            sideAsAround(name + ", step " + i, x, i, x.about(0));
        }
        due.is(name + ", comes by", came, true);
    }

    private static void sideAsAround(String name, HexTable x, int i, int size) {
        int column = x.step(i, 0);
        int line = x.step(i, 1);
        int want = x.cell(column, line);
        if (want == HexTable.NONE) {
            want = column < -1 || column > size ? 0 : line == -1 || line == size ? 1 : 2;
        }
        due.is(name + " at " + column + ", " + line, x.step(i, 2), want);
    }

    private static void whereItEnds() {
        due.by("II: It ends with x SIZE + 1, y -1 (side 2 WINS), or with x -2, y SIZE (side 1)");
        for (int size = 1; size <= 3; size++) {
            for (int stones = 0; stones < 1 << size * size; stones++) {
                HexTable x = new HexTable(size);
                for (int place = 0; place < size * size; place++) {
                    x.set(place % size, place / size, 1 + (stones >> place & 1));
                }
                int last = x.walk() - 1;
                boolean two = x.about(3) == 2;
                due.is("x of " + stones, x.step(last, 0), two ? size + 1 : -2);
                due.is("y of " + stones, x.step(last, 1), two ? -1 : size);
            }
        }
    }

    private static void onlyTheLastStepHasNoSide() {
        due.by("10: its side (2; 0 for the last one)");
        for (int stones = 0; stones < 1 << 9; stones++) {
            HexTable x = new HexTable(3);
            for (int place = 0; place < 9; place++) {
                x.set(place % 3, place / 3, 1 + (stones >> place & 1));
            }
            int steps = x.walk();
            for (int i = 0; i < steps; i++) {
                due.is("step " + i + " of " + stones, x.step(i, 2) == 0, i == steps - 1);
            }
        }
    }

    private static void numbersThatAreNoStep() {
        due.by("10: NONE - 2 for others: no step");
        for (int size = 1; size <= 11; size++) {
            for (int side = 1; side <= 2; side++) {
                HexTable x = Given.filled(size, side);
                int steps = x.walk();
                for (int i : Given.notBelow(steps)) {
                    for (int what = 0; what < 3; what++) {
                        due.is("step(" + i + ", " + what + ")", x.step(i, what), -3);
                    }
                }
                due.is("the last one is there", x.step(steps - 1, 2), 0);
                due.is("the first one is there", x.step(0, 2), side);
            }
        }
    }

    private static void numbersThatAreNoKind() {
        due.by("10: NONE - 2 for others: no such number");
        HexTable x = Given.filled(4, 2);
        int steps = x.walk();
        int[] some = {0, 1, steps - 1, steps, -1};
        for (int i : some) {
            for (int what : Given.noKinds(3)) {
                due.is("step(" + i + ", " + what + ")", x.step(i, what), -3);
            }
        }
    }

    private static void asTheBoardIsNow() {
        due.by("10: Of the walk as the board is now");
        HexTable x = Given.filled(1, 1);
        walkIs("side 1", x, new int[][] {{0, 0, 1}, {-1, 1, 1}, {-2, 1, 0}});
        x.set(0, 0, 2);
        due.is("without a new walk", x.step(3, 0), 2);
        due.is("without a new walk", x.step(1, 1), -1);
        due.is("walk", x.walk(), 4);
        x.set(0, 0, 0);
        noWalk("not full any more", x);
        x.set(0, 0, 1);
        due.is("without a walk", x.step(2, 0), -2);
        due.is("without a walk", x.step(3, 0), -3);
        x.turn(2);
        due.is("TURN is nothing to it", x.walk(), 3);
    }

    private static void fullByPlays() {
        due.by("9: The walk: how many steps it has (the one with which it ends, too)");
        for (int size = 1; size <= 11; size++) {
            for (int begins = 1; begins <= 2; begins++) {
                HexTable x = Given.playedToTheLastCell(size, begins);
                noWalk("ahead of the last play", x);
                x.play(size / 2, size / 2);
                int steps = x.walk();
                due.is("has steps", steps > 2, true);
                due.is("with the one at its end", x.step(steps - 1, 2), 0);
                due.is("and the one ahead of that", x.step(steps - 2, 2) != 0, true);
                due.is("as who WINS", x.step(steps - 1, 0), x.about(3) == 2 ? size + 1 : -2);
                x.undo();
                noWalk("taken back", x);
            }
        }
    }

    private static void walkingChangesNothing() {
        due.by("9, 10: what is only read stays");
        twins.unchangedInEveryState("walk, step", x -> {
            x.walk();
            for (int i = -1; i < 6; i++) {
                for (int what = -1; what < 4; what++) {
                    x.step(i, what);
                }
            }
        });
    }
}
