/** The boundary cases of promises 2 to 5: set, turn, play, undo. */
public final class EdgePlayTest {
    private static final Due due = new Due("EdgePlayTest");
    private static final Twins twins = new Twins(due);

    public static void main(String[] args) {
        setEveryCell();
        setForgetsPlays();
        setGoesOnBehindAWin();
        setNoSuchCell();
        setNoSuchSide();
        turnForgetsPlays();
        turnForOthers();
        turnBehindAWin();
        playNoSuchCell();
        playOnAStone();
        playWhereSomebodyWins();
        playAgainWhenNobodyWins();
        playThatWins();
        playToAFullBoard();
        playOnAFullBoard();
        undoWithoutPlays();
        undoTakesTheLatest();
        undoOfAWin();
        undoOfAFullBoard();
        undoEndsWherePlaysWereForgotten();
        manyPlaysAndUndos();
        due.end();
    }

    private static void setEveryCell() {
        due.by("2: A cell becomes EMPTY (0), or gets a stone of side 1 or 2: true");
        for (int size = 1; size <= 11; size++) {
            for (int y = 0; y < size; y++) {
                HexTable t = new HexTable(size);
                for (int x = 0; x < size; x++) {
                    int[] sides = {1, 2, 2, 0, 0, 2, 1, 1};
                    for (int side : sides) {
                        due.is("set " + x + ", " + y, t.set(x, y, side), true);
                        due.is("cell " + x + ", " + y, t.cell(x, y), side);
                        due.is("no other one", t.about(4), size * size - (side == 0 ? x : x + 1));
                    }
                }
            }
        }
    }

    private static void setForgetsPlays() {
        due.by("2: PLAYS are forgotten");
        int[][] sets = {{0, 0, 1}, {0, 0, 2}, {0, 0, 0}, {1, 1, 2}, {1, 1, 0}, {0, 1, 1}, {1, 0, 0}};
        for (int[] set : sets) {
            String name = "set(" + set[0] + ", " + set[1] + ", " + set[2] + ")";
            HexTable x = Given.busy(2, 3, 0);
            due.is(name + " ahead", x.about(2), 2);
            due.is(name, x.set(set[0], set[1], set[2]), true);
            due.is(name + " PLAYS", x.about(2), 0);
            due.is(name + " undo", x.undo(), -1);
            due.is(name + " cell", x.cell(set[0], set[1]), set[2]);
            due.is(name + " TURN stays", x.about(1), 2);
            due.is(name + " NODES stay", x.about(6), 31);
            due.is(name + " TREE stays", x.about(8), 7);
        }
    }

    private static void setGoesOnBehindAWin() {
        due.by("2: true, whoever WINS");
        Given.wonStates().forEach((state, made) -> {
            for (int side = 0; side <= 2; side++) {
                HexTable x = made.get();
                due.is(state + ", set " + side, x.set(0, 0, side), true);
                due.is(state + ", cell", x.cell(0, 0), side);
            }
        });
    }

    private static void setNoSuchCell() {
        due.by("2: False, changing nothing: no such cell");
        twins.unchangedInEveryState("set of no cell", x -> {
            int size = x.about(0);
            for (int line : Given.noLines(size)) {
                due.is("column " + line, x.set(line, 0, 1), false);
                due.is("column " + line + " of the last line", x.set(line, size - 1, 2), false);
                due.is("line " + line, x.set(0, line, 0), false);
                due.is("both " + line, x.set(line, line, 1), false);
            }
        });
        for (int size = 1; size <= 11; size++) {
            for (int line : Given.wrappedLines(size)) {
                HexTable x = new HexTable(size);
                x.play(0, 0);
                due.is("line that wraps " + line, x.set(0, line, 1), false);
                due.is("line that wraps " + line, x.set(size - 1, line, 2), false);
                due.is("EMPTY cells", x.about(4), size * size - 1);
                due.is("PLAYS", x.about(2), 1);
            }
        }
    }

    private static void setNoSuchSide() {
        due.by("2: False, changing nothing: no such side");
        int[] none = {Integer.MIN_VALUE, -2, -1, 3, 4, 256, 257, 65536, Integer.MAX_VALUE};
        twins.unchangedInEveryState("set of no side", x -> {
            int last = x.about(0) - 1;
            for (int side : none) {
                due.is("side " + side, x.set(0, 0, side), false);
                due.is("side " + side, x.set(last, last, side), false);
                due.is("neither cell nor side " + side, x.set(-1, -1, side), false);
            }
        });
    }

    private static void turnForgetsPlays() {
        due.by("3: TURN becomes a side; PLAYS are forgotten: true");
        for (int side = 1; side <= 2; side++) {
            for (int begins = 1; begins <= 2; begins++) {
                HexTable x = Given.busy(begins, 3, 0);
                due.is("PLAYS ahead", x.about(2), 2);
                due.is("turn(" + side + ")", x.turn(side), true);
                due.is("TURN", x.about(1), side);
                due.is("PLAYS", x.about(2), 0);
                due.is("undo", x.undo(), -1);
                due.is("stones stay", x.cell(1, 1), begins);
                due.is("stones stay", x.cell(0, 0), 3 - begins);
                due.is("NODES stay", x.about(6), 31);
                due.is("TREE stays", x.about(8), 7);
            }
        }
    }

    private static void turnForOthers() {
        due.by("3: False for others");
        twins.unchangedInEveryState("turn of no side", x -> {
            for (int side : Given.noSides()) {
                due.is("turn(" + side + ")", x.turn(side), false);
            }
        });
        HexTable x = new HexTable(2);
        x.turn(2);
        for (int side : Given.noSides()) {
            x.turn(side);
            due.is("TURN stays 2", x.about(1), 2);
        }
    }

    private static void turnBehindAWin() {
        due.by("3: true, whoever WINS");
        Given.wonStates().forEach((state, made) -> {
            for (int side = 1; side <= 2; side++) {
                HexTable x = made.get();
                due.is(state + ", turn(" + side + ")", x.turn(side), true);
                due.is(state + ", TURN", x.about(1), side);
                due.is(state + ", PLAYS", x.about(2), 0);
            }
        });
    }

    private static void playNoSuchCell() {
        due.by("4: False, changing nothing: the cell isn't there");
        twins.unchangedInEveryState("play of no cell", x -> {
            int size = x.about(0);
            for (int line : Given.noLines(size)) {
                due.is("column " + line, x.play(line, 0), false);
                due.is("column " + line + " of the last line", x.play(line, size - 1), false);
                due.is("line " + line, x.play(0, line), false);
                due.is("both " + line, x.play(line, line), false);
            }
        });
        for (int size = 1; size <= 11; size++) {
            for (int line : Given.wrappedLines(size)) {
                HexTable x = new HexTable(size);
                due.is("line that wraps " + line, x.play(0, line), false);
                due.is("line that wraps " + line, x.play(size - 1, line), false);
                due.is("TURN", x.about(1), 1);
                due.is("EMPTY cells", x.about(4), size * size);
            }
        }
    }

    private static void playOnAStone() {
        due.by("4: False, changing nothing: the cell is not EMPTY");
        twins.unchanged("own play", () -> Given.busy(1, 0, 3), x -> due.is("own", x.play(0, 0), false));
        twins.unchanged("the other's play", () -> Given.busy(1, 0, 3), x -> due.is("the other's", x.play(1, 1), false));
        for (int side = 1; side <= 2; side++) {
            for (int turn = 1; turn <= 2; turn++) {
                HexTable x = new HexTable(11);
                x.set(10, 10, side);
                x.turn(turn);
                x.play(0, 0);
                due.is("stone of " + side, x.play(10, 10), false);
                due.is("it stays", x.cell(10, 10), side);
                due.is("TURN stays", x.about(1), 3 - turn);
                due.is("PLAYS stay", x.about(2), 1);
            }
        }
    }

    private static void playWhereSomebodyWins() {
        due.by("4: False, changing nothing: somebody WINS");
        twins.unchangedWhereSomebodyWins("play", x -> {
            int size = x.about(0);
            for (int place = 0; place < size * size; place++) {
                due.is("cell " + place, x.play(place % size, place / size), false);
            }
        });
    }

    private static void playAgainWhenNobodyWins() {
        due.by("I: A play .. as long as nobody WINS");
        HexTable hand = Given.board(2, "1. 1.");
        due.is("won by hand", hand.play(1, 1), false);
        hand.set(0, 1, 2);
        due.is("won no more", hand.play(1, 1), true);
        HexTable plays = Given.busy(1, 0, 3, 2);
        due.is("won by plays", plays.play(1, 0), false);
        plays.undo();
        due.is("taken back", plays.play(1, 0), true);
        due.is("side 1's", plays.cell(1, 0), 1);
    }

    private static void playThatWins() {
        due.by("I: A play .. then it is the other one's TURN: also the one that wins");
        for (int begins = 1; begins <= 2; begins++) {
            HexTable x = new HexTable(1);
            x.turn(begins);
            due.is("play", x.play(0, 0), true);
            due.is("WINS", x.about(3), begins);
            due.is("TURN", x.about(1), 3 - begins);
            due.is("PLAYS", x.about(2), 1);
        }
    }

    private static void playToAFullBoard() {
        due.by("I: PLAYS are kept (121 at most)");
        for (int size = 1; size <= 11; size++) {
            for (int begins = 1; begins <= 2; begins++) {
                String name = size + ", " + begins + " begins";
                int last = size * size - 1;
                HexTable x = Given.playedToTheLastCell(size, begins);
                int turn = last % 2 == 0 ? begins : 3 - begins;
                due.is("PLAYS of " + name, x.about(2), last);
                due.is("nobody WINS in " + name, x.about(3), 0);
                due.is("TURN in " + name, x.about(1), turn);
                due.is("last play of " + name, x.play(size / 2, size / 2), true);
                due.is("PLAYS of full " + name, x.about(2), last + 1);
                due.is("EMPTY cells of full " + name, x.about(4), 0);
                due.is("WINS full " + name, x.about(3), turn);
            }
        }
    }

    private static void playOnAFullBoard() {
        due.by("4: False, changing nothing: a full board");
        HexTable x = Given.playedToTheLastCell(11, 1);
        x.play(5, 5);
        for (int place = 0; place < 121; place++) {
            due.is("cell " + place, x.play(place % 11, place / 11), false);
        }
        due.is("PLAYS", x.about(2), 121);
        due.is("TURN", x.about(1), 2);
        due.is("undo", x.undo(), 60);
    }

    private static void undoWithoutPlays() {
        due.by("5: NONE without one");
        String[] without = {"new", "new of size 1", "new of size 11", "searched", "nobody found", "1 wins by hand",
            "2 wins by hand", "full of size 11"};
        for (String state : without) {
            twins.unchanged(state + ", undo", Given.states().get(state), x -> {
                due.is(state + ", undo", x.undo(), -1);
                due.is(state + ", undo again", x.undo(), -1);
            });
        }
        for (int begins = 1; begins <= 2; begins++) {
            HexTable x = Given.busy(begins, 3, 0);
            x.undo();
            x.undo();
            due.is("all taken back", x.undo(), -1);
            due.is("TURN", x.about(1), begins);
            due.is("PLAYS", x.about(2), 0);
        }
    }

    private static void undoTakesTheLatest() {
        due.by("5: The latest PLAY is taken back: its cell's number");
        for (int begins = 1; begins <= 2; begins++) {
            HexTable x = Given.busy(begins, 3, 0);
            due.is("the latest", x.undo(), 0);
            due.is("EMPTY", x.cell(0, 0), 0);
            due.is("the first stays", x.cell(1, 1), begins);
            due.is("TURN", x.about(1), 3 - begins);
            due.is("PLAYS", x.about(2), 1);
            x.play(1, 0);
            due.is("another one", x.undo(), 1);
            due.is("the first", x.undo(), 3);
            due.is("TURN", x.about(1), begins);
            due.is("NODES stay", x.about(6), 31);
            due.is("TREE stays", x.about(8), 7);
        }
    }

    private static void undoOfAWin() {
        due.by("5: The latest PLAY is taken back: also one that won");
        for (int side = 1; side <= 2; side++) {
            HexTable x = Given.busy(side, 0, 3, side == 1 ? 2 : 1);
            due.is("WINS", x.about(3), side);
            due.is("undo", x.undo(), side == 1 ? 2 : 1);
            due.is("nobody WINS", x.about(3), 0);
            due.is("TURN", x.about(1), side);
            due.is("EMPTY cells", x.about(4), 2);
        }
    }

    private static void undoOfAFullBoard() {
        due.by("I: PLAYS are kept (121 at most), and taken back from the latest one");
        for (int size = 1; size <= 11; size++) {
            int[] order = Given.playsToTheLastCell(size, 2);
            HexTable x = Given.playedToTheLastCell(size, 2);
            x.play(size / 2, size / 2);
            due.is("undo of the last", x.undo(), Given.middle(size));
            for (int k = order.length - 1; k >= 0; k--) {
                due.is("undo " + k + " of " + size, x.undo(), order[k]);
                due.is("TURN", x.about(1), k % 2 == 0 ? 2 : 1);
            }
            due.is("no more", x.undo(), -1);
            due.is("EMPTY cells", x.about(4), size * size);
            due.is("TURN", x.about(1), 2);
        }
    }

    private static void undoEndsWherePlaysWereForgotten() {
        due.by("I: what is set by hand forgets them all");
        HexTable set = Given.busy(1, 0, 3);
        set.set(0, 0, 1);
        set.play(0, 1);
        due.is("PLAYS behind set", set.about(2), 1);
        due.is("the play behind set", set.undo(), 2);
        due.is("none ahead of set", set.undo(), -1);
        due.is("its stone stays", set.cell(1, 1), 2);
        HexTable turn = Given.busy(1, 0, 3);
        turn.turn(2);
        turn.play(0, 1);
        due.is("PLAYS behind turn", turn.about(2), 1);
        due.is("the play behind turn", turn.undo(), 2);
        due.is("TURN", turn.about(1), 2);
        due.is("none ahead of turn", turn.undo(), -1);
        due.is("TURN stays", turn.about(1), 2);
    }

    private static void manyPlaysAndUndos() {
        due.by("An object is used for at most 512 calls after it has been made");
        HexTable x = new HexTable(11);
        for (int k = 0; k < 255; k++) {
            due.is("play " + k, x.play(k % 11, k % 7), true);
            due.is("undo " + k, x.undo(), 11 * (k % 7) + k % 11);
        }
        due.is("PLAYS, call 511", x.about(2), 0);
        due.is("TURN, call 512", x.about(1), 1);
    }
}
