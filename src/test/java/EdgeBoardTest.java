/** The boundary cases of Terms I and of promises 1, 6, 7 and 8: a new object, cell, chain, about. */
public final class EdgeBoardTest {
    private static final Due due = new Due("EdgeBoardTest");
    private static final Twins twins = new Twins(due);

    public static void main(String[] args) {
        sizeIsTakenIntoOneToEleven();
        newBoardIsEmpty();
        newObjectHasNothingElse();
        objectsAreApart();
        numbersOfCells();
        neighboursEndAtTheEdges();
        chainsDoNotWrapAround();
        nameOfOneStone();
        nameIsLeastCell();
        chainOfTheWholeBoard();
        windingChain();
        oneCellWinsForEither();
        fromFirstLineToLast();
        edgesOfTheOtherSideWinNothing();
        cellInsideAndOutside();
        chainOfEmptyOrNoCell();
        aboutOtherNumbers();
        aboutEmptyAndFull();
        mostChains();
        oneWinnerOfBoardsSetByHand();
        readingChangesNothing();
        due.end();
    }

    private static void sizeIsTakenIntoOneToEleven() {
        due.by("1: A board of SIZE 1 .. 11 (the number is taken into that)");
        int[] below = {Integer.MIN_VALUE, Integer.MIN_VALUE + 1, -121, -11, -2, -1, 0, 1};
        for (int size : below) {
            sizeIs("of " + size, new HexTable(size), 1);
        }
        int[] above = {11, 12, 13, 121, 256 + 5, 65536 + 3, Integer.MAX_VALUE - 1, Integer.MAX_VALUE};
        for (int size : above) {
            sizeIs("of " + size, new HexTable(size), 11);
        }
        for (int size = 1; size <= 11; size++) {
            sizeIs("of " + size, new HexTable(size), size);
        }
    }

    private static void sizeIs(String name, HexTable x, int size) {
        due.is("SIZE " + name, x.about(0), size);
        due.is("EMPTY cells " + name, x.about(4), size * size);
        due.is("last cell " + name, x.cell(size - 1, size - 1), 0);
        due.is("no column beyond " + name, x.cell(size, 0), -1);
        due.is("no line beyond " + name, x.cell(0, size), -1);
    }

    private static void newBoardIsEmpty() {
        due.by("1: all EMPTY, TURN 1");
        for (int size = 1; size <= 11; size++) {
            HexTable x = new HexTable(size);
            for (int place = 0; place < size * size; place++) {
                due.is("cell " + place, x.cell(place % size, place / size), 0);
                due.is("chain " + place, x.chain(place % size, place / size), -1);
            }
            due.is("TURN", x.about(1), 1);
            due.is("PLAYS", x.about(2), 0);
            due.is("nobody WINS", x.about(3), 0);
            due.is("CHAINS", x.about(5), 0);
            due.is("undo", x.undo(), -1);
            due.is("walk", x.walk(), -1);
            due.is("step", x.step(0, 0), -3);
        }
    }

    private static void newObjectHasNothingElse() {
        due.by("1: nothing searched, an empty TREE");
        for (int size = 1; size <= 11; size++) {
            HexTable x = new HexTable(size);
            for (int what = 6; what <= 8; what++) {
                due.is("about(" + what + ")", x.about(what), 0);
            }
            for (int what = 0; what < 6; what++) {
                due.is("node(0, " + what + ")", x.node(0, what), -1);
            }
            due.is("strategy(0, 0)", x.strategy(0, 0), -3);
            due.is("strategy(0, 1)", x.strategy(0, 1), -3);
            due.is("graft(0, 0)", x.graft(0, 0), false);
            due.is("plant(0, 0)", x.plant(0, 0), -1);
            due.is("prune(1)", x.prune(1), -1);
            due.is("prune(0)", x.prune(0), 0);
            due.is("check(1)", x.check(1), 3);
            due.is("check(2)", x.check(2), 4);
            due.is("load()", x.load(), 0);
        }
    }

    private static void objectsAreApart() {
        due.by("1: a new object is its own, whatever another one has");
        HexTable other = Given.busy(1, 0, 3);
        HexTable x = new HexTable(2);
        int[] want = {2, 1, 0, 0, 4, 0, 0, 0, 0};
        for (int what = 0; what < want.length; what++) {
            due.is("about(" + what + ")", x.about(what), want[what]);
        }
        x.set(1, 0, 2);
        x.plant(-1, 9);
        x.search(1);
        due.is("the other's cell", other.cell(1, 0), 0);
        due.is("the other's PLAYS", other.about(2), 2);
        due.is("the other's NODES", other.about(6), 31);
        due.is("the other's TREE", other.about(8), 7);
    }

    private static void numbersOfCells() {
        due.by("I: cell number SIZE * y + x");
        for (int size = 1; size <= 11; size++) {
            HexTable x = new HexTable(size);
            for (int place = 0; place < size * size; place++) {
                due.is("play", x.play(place % size, place / size), true);
                due.is("number of it, size " + size, x.undo(), place);
            }
        }
    }

    private static boolean areNeighbours(int size, int a, int b) {
        int dx = b % size - a % size;
        int dy = b / size - a / size;
        return dy == 0 && (dx == -1 || dx == 1) || dx == 0 && (dy == -1 || dy == 1)
            || dx == 1 && dy == -1 || dx == -1 && dy == 1;
    }

    /** Every two cells of every board: so the edges and corners, too, and no edge is joined to another one. */
    private static void neighboursEndAtTheEdges() {
        due.by("I: Neighbours of x, y");
        for (int size = 2; size <= 11; size++) {
            for (int a = 0; a < size * size; a++) {
                HexTable x = new HexTable(size);
                x.set(a % size, a / size, 1 + a % 2);
                for (int b = 0; b < size * size; b++) {
                    if (b != a) {
                        x.set(b % size, b / size, 1 + a % 2);
                        boolean near = areNeighbours(size, a, b);
                        String name = "size " + size + ", " + a + " with " + b;
                        due.is(name, x.about(5), near ? 1 : 2);
                        due.is(name, x.chain(b % size, b / size), near ? Math.min(a, b) : b);
                        x.set(b % size, b / size, 0);
                    }
                }
            }
        }
    }

    /** The last cell of a line and the first of the next one have numbers side by side. */
    private static void chainsDoNotWrapAround() {
        due.by("I: Neighbours of x, y: none beyond an edge");
        for (int size = 3; size <= 11; size++) {
            HexTable x = new HexTable(size);
            x.set(size - 1, 0, 2);
            x.set(0, 1, 2);
            due.is("two chains", x.about(5), 2);
            due.is("nobody WINS", x.about(3), 0);
            HexTable lines = new HexTable(size);
            for (int k = 0; k < size; k++) {
                lines.set(k, 0, 1);
                lines.set(k, size - 1, 1);
            }
            due.is("first line and last", lines.about(5), 2);
            due.is("nobody WINS", lines.about(3), 0);
        }
    }

    private static void nameOfOneStone() {
        due.by("I: a CHAIN's name is its least cell: of one stone, its own");
        for (int size = 1; size <= 11; size++) {
            for (int side = 1; side <= 2; side++) {
                HexTable x = new HexTable(size);
                for (int place = 0; place < size * size; place++) {
                    x.set(place % size, place / size, side);
                    due.is("alone " + place, x.chain(place % size, place / size), place);
                    x.set(place % size, place / size, 0);
                }
            }
        }
    }

    private static void nameIsLeastCell() {
        due.by("I: a CHAIN's name is its least cell");
        HexTable x = Given.board(3, "11. .21 111");
        int[] named = {0, 0, -1, -1, 4, 5, 5, 5, 5};
        for (int place = 0; place < 9; place++) {
            due.is("cell " + place, x.chain(place % 3, place / 3), named[place]);
        }
        x.set(0, 1, 1);
        for (int place = 0; place < 9; place++) {
            int want = place == 2 ? -1 : place == 4 ? 4 : 0;
            due.is("joined, cell " + place, x.chain(place % 3, place / 3), want);
        }
        x.set(0, 0, 0);
        due.is("without cell 0", x.chain(2, 2), 1);
        x.set(1, 0, 2);
        due.is("without cell 1", x.chain(2, 2), 3);
        due.is("the other side's", x.chain(1, 1), 1);
    }

    private static void chainOfTheWholeBoard() {
        due.by("I: A CHAIN: stones of one side that are joined: a full board of one side");
        for (int size = 1; size <= 11; size++) {
            for (int side = 1; side <= 2; side++) {
                HexTable x = Given.filled(size, side);
                due.is("CHAINS", x.about(5), 1);
                for (int place = 0; place < size * size; place++) {
                    due.is("name", x.chain(place % size, place / size), 0);
                }
            }
        }
    }

    /** Lines of side 1, joined at the right and at the left by turns; side 2 between them. */
    private static void windingChain() {
        due.by("I: A CHAIN: stones of one side that are joined: a long one");
        HexTable x = new HexTable(11);
        for (int place = 0; place < 121; place++) {
            int line = place / 11;
            boolean bend = line % 4 == 1 && place % 11 == 10 || line % 4 == 3 && place % 11 == 0;
            x.set(place % 11, line, line % 2 == 0 || bend ? 1 : 2);
        }
        due.is("its far end", x.chain(0, 10), 0);
        due.is("its other far end", x.chain(10, 10), 0);
        due.is("CHAINS", x.about(5), 6);
        due.is("side 2, line 1", x.chain(9, 1), 11);
        due.is("side 2, line 3", x.chain(10, 3), 34);
        due.is("1 WINS", x.about(3), 1);
        x.set(10, 9, 2);
        due.is("cut, the last line", x.chain(0, 10), 110);
        due.is("cut, the rest", x.chain(10, 8), 0);
        due.is("cut, 2 WINS", x.about(3), 2);
    }

    private static void oneCellWinsForEither() {
        due.by("I: lines 0 and SIZE - 1, columns 0 and SIZE - 1: one cell is both");
        for (int side = 0; side <= 2; side++) {
            HexTable x = new HexTable(1);
            x.set(0, 0, side);
            due.is("who WINS with " + side, x.about(3), side);
        }
        for (int side = 1; side <= 2; side++) {
            HexTable x = new HexTable(1);
            x.turn(side);
            x.play(0, 0);
            due.is("who WINS by a play of " + side, x.about(3), side);
        }
    }

    private static void fromFirstLineToLast() {
        due.by("I: Side 1 WINS by a CHAIN with cells in lines 0 and SIZE - 1, side 2 in columns 0 and SIZE - 1");
        for (int size = 2; size <= 11; size++) {
            for (int at = 0; at < size; at++) {
                HexTable one = new HexTable(size);
                HexTable two = new HexTable(size);
                for (int k = 0; k < size; k++) {
                    one.set(at, k, 1);
                    two.set(k, at, 2);
                }
                due.is("column " + at + " of " + size, one.about(3), 1);
                due.is("line " + at + " of " + size, two.about(3), 2);
                for (int gap = 0; gap < size; gap++) {
                    one.set(at, gap, 0);
                    two.set(gap, at, 0);
                    due.is("gap " + gap + " in column " + at + " of " + size, one.about(3), 0);
                    due.is("gap " + gap + " in line " + at + " of " + size, two.about(3), 0);
                    one.set(at, gap, 1);
                    two.set(gap, at, 2);
                }
            }
        }
    }

    private static void edgesOfTheOtherSideWinNothing() {
        due.by("I: side 1 WINS by lines alone, side 2 by columns alone");
        for (int size = 2; size <= 11; size++) {
            for (int at = 0; at < size; at++) {
                HexTable x = new HexTable(size);
                for (int k = 0; k < size; k++) {
                    x.set(k, at, 1);
                }
                due.is("line " + at + " of side 1", x.about(3), 0);
                HexTable y = new HexTable(size);
                for (int k = 0; k < size; k++) {
                    y.set(at, k, 2);
                }
                due.is("column " + at + " of side 2", y.about(3), 0);
            }
            HexTable apart = new HexTable(size);
            HexTable joined = new HexTable(size);
            for (int k = 0; k < size; k++) {
                apart.set(k, k, 1);
                joined.set(k, size - 1 - k, 2);
            }
            due.is("the diagonal from 0, 0", apart.about(3), 0);
            due.is("the diagonal to 0, SIZE - 1", joined.about(3), 2);
        }
    }

    private static void cellInsideAndOutside() {
        due.by("6: NONE for others");
        for (int size = 1; size <= 11; size++) {
            HexTable x = Given.filled(size, 2);
            for (int line : Given.noLines(size)) {
                due.is("column " + line + " of " + size, x.cell(line, 0), -1);
                due.is("last column " + line + " of " + size, x.cell(line, size - 1), -1);
                due.is("line " + line + " of " + size, x.cell(0, line), -1);
                due.is("both " + line + " of " + size, x.cell(line, line), -1);
            }
            for (int line : Given.wrappedLines(size)) {
                HexTable y = Given.filled(size, 1);
                for (int k = 0; k < size; k++) {
                    due.is("line that wraps " + line + " of " + size, y.cell(k, line), -1);
                }
            }
            due.is("the last one", x.cell(size - 1, size - 1), 2);
        }
    }

    private static void chainOfEmptyOrNoCell() {
        due.by("7: NONE if it is EMPTY, or none");
        for (int size = 1; size <= 11; size++) {
            HexTable x = Given.filled(size, 1);
            for (int line : Given.noLines(size)) {
                due.is("column " + line + " of " + size, x.chain(line, 0), -1);
                due.is("last column " + line + " of " + size, x.chain(line, size - 1), -1);
                due.is("line " + line + " of " + size, x.chain(0, line), -1);
                due.is("both " + line + " of " + size, x.chain(line, line), -1);
            }
            for (int line : Given.wrappedLines(size)) {
                due.is("line that wraps " + line + " of " + size, new HexTable(size).chain(0, line), -1);
                due.is("line that wraps " + line + " of " + size, Given.filled(size, 2).chain(size - 1, line), -1);
            }
            x.set(size / 2, size / 2, 0);
            due.is("EMPTY one", x.chain(size / 2, size / 2), -1);
        }
        HexTable around = Given.board(3, "111 1.1 111");
        due.is("EMPTY one with stones all around", around.chain(1, 1), -1);
    }

    private static void aboutOtherNumbers() {
        due.by("8: NONE for others");
        Given.states().forEach((state, made) -> {
            HexTable x = made.get();
            for (int what : Given.noKinds(9)) {
                due.is(state + ", about(" + what + ")", x.about(what), -1);
            }
        });
    }

    private static void aboutEmptyAndFull() {
        due.by("8: 3 who WINS (0 nobody), 4 EMPTY cells, 5 CHAINS");
        for (int size = 1; size <= 11; size++) {
            HexTable x = new HexTable(size);
            due.is("EMPTY of an empty one", x.about(4), size * size);
            for (int place = 0; place < size * size; place++) {
                x.set(place % size, place / size, 2);
                due.is("EMPTY", x.about(4), size * size - place - 1);
            }
            due.is("EMPTY of a full one", x.about(4), 0);
            due.is("WINS of a full one", x.about(3), 2);
        }
    }

    /** Neighbours differ in x - y by 1 or 2: so cells that agree in it, but for threes, lie apart. */
    private static void mostChains() {
        due.by("8: 5 CHAINS: of single stones as many");
        for (int size = 1; size <= 11; size++) {
            HexTable x = new HexTable(size);
            int stones = 0;
            for (int place = 0; place < size * size; place++) {
                int kind = Math.floorMod(place % size - place / size, 3);
                if (kind != 0) {
                    x.set(place % size, place / size, kind);
                    stones++;
                    due.is("CHAINS of " + size, x.about(5), stones);
                }
            }
        }
    }

    private static void oneWinnerOfBoardsSetByHand() {
        due.by("8: Two sides can't both win by plays; of a board that is set by hand neither");
        for (int stones = 0; stones < 1 << 9; stones++) {
            HexTable x = new HexTable(3);
            HexTable turned = new HexTable(3);
            for (int place = 0; place < 9; place++) {
                int side = 1 + (stones >> place & 1);
                x.set(place % 3, place / 3, side);
                turned.set(place / 3, place % 3, 3 - side);
            }
            due.is("a full board has a winner " + stones, x.about(3) == 1 || x.about(3) == 2, true);
            due.is("turned over, the other one " + stones, turned.about(3), 3 - x.about(3));
        }
    }

    private static void readingChangesNothing() {
        due.by("6, 7, 8: what is only read stays");
        twins.unchangedInEveryState("cell, chain, about", x -> {
            for (int k = -1; k <= 3; k++) {
                x.cell(k, 1);
                x.cell(0, k);
                x.chain(k, 0);
                x.chain(1, k);
            }
            for (int what = -1; what <= 9; what++) {
                x.about(what);
            }
        });
    }
}
