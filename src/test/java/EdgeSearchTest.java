/** The boundary cases of Terms III and of promises 11 to 13: search, node, strategy. */
public final class EdgeSearchTest {
    private static final Due due = new Due("EdgeSearchTest");
    private static final Twins twins = new Twins(due);
    private static final int SURE = 1000000000;
    /** 94 EMPTY cells, and nobody can win in two plays. */
    private static final String WIDE = ".".repeat(44) + "1".repeat(27) + ".".repeat(50);
    /** 101 EMPTY cells; each of the last line, 110 to 120, would win for side 1, no other cell in one play. */
    private static final String ONE_LINE_MORE = ".....1.....".repeat(9) + "1".repeat(11) + ".".repeat(11);

    public static void main(String[] args) {
        anotherBudget();
        leastAndGreatestBudget();
        somebodyWins();
        searchWhenAWinIsTakenBack();
        boardStays();
        rootAlone();
        oneNodeTooMany();
        everyBudgetOfASmallBoard();
        exactly8000Nodes();
        oneEmptyCell();
        firstWins();
        theOtherWins();
        sumsStopAtTheirMost();
        sumsBelowTheirMost();
        firstChildOfThoseWithTheLeast();
        endsAsSoonAsItIsFound();
        theOtherIsFound();
        nobodyIsFound();
        nodesWithoutASearch();
        numbersThatAreNoNode();
        nodeOtherNumbers();
        rootHasNothingAhead();
        withoutChildren();
        latestSearch();
        nodesStayWhenTheBoardGoes();
        strategyWithoutASearch();
        strategyNumbers();
        strategyOtherNumbers();
        strategyEndsWithAWin();
        strategyOfEachReply();
        readingChangesNothing();
        manySearches();
        due.end();
    }

    private static void nodeIs(HexTable x, int i, int... want) {
        for (int what = 0; what < 6; what++) {
            due.is("node(" + i + ", " + what + ")", x.node(i, what), want[what]);
        }
    }

    private static void strategyIs(HexTable x, int[]... want) {
        due.is("entries", x.about(7), want.length);
        for (int i = 0; i < want.length; i++) {
            due.is("strategy(" + i + ", 0)", x.strategy(i, 0), want[i][0]);
            due.is("strategy(" + i + ", 1)", x.strategy(i, 1), want[i][1]);
        }
        due.is("behind the last", x.strategy(want.length, 0), -3);
        due.is("behind the last", x.strategy(want.length, 1), -3);
    }

    private static void anotherBudget() {
        due.by("11: NONE, and nothing is done: another BUDGET");
        twins.unchangedInEveryState("search", x -> {
            for (int budget : Given.noBudgets()) {
                due.is("search(" + budget + ")", x.search(budget), -1);
            }
        });
    }

    private static void leastAndGreatestBudget() {
        due.by("11: with a BUDGET of 1 .. 8000 nodes");
        for (int size = 1; size <= 11; size++) {
            HexTable x = new HexTable(size);
            due.is("search(1)", x.search(1), 0);
            due.is("one node", x.about(6), 1);
            due.is("search(8000)", x.search(8000) >= 0, true);
            due.is("more nodes", x.about(6) > 1 && x.about(6) <= 8000, true);
        }
    }

    private static void somebodyWins() {
        due.by("11: NONE, and nothing is done: somebody WINS");
        twins.unchangedWhereSomebodyWins("search", x -> {
            due.is("search(1)", x.search(1), -1);
            due.is("search(8000)", x.search(8000), -1);
            due.is("search(0)", x.search(0), -1);
        });
    }

    private static void searchWhenAWinIsTakenBack() {
        due.by("11: NONE .. somebody WINS: not when it is taken back");
        HexTable x = Given.busy(1, 0, 3, 2);
        due.is("1 WINS", x.search(8000), -1);
        x.undo();
        due.is("taken back", x.search(3), 1);
        due.is("its NODES", x.about(6), 3);
        nodeIs(x, 2, 2, 0, 0, SURE, -1, 0);
    }

    private static void boardStays() {
        due.by("11: (The board stays.)");
        int[] budgets = {1, 5, 30, 8000};
        for (int budget : budgets) {
            Given.states().forEach((state, made) ->
                twins.unchangedButTheSearch(state + ", search(" + budget + ")", made, x -> x.search(budget)));
        }
    }

    private static void rootAlone() {
        due.by("III: the root is number 0; any other one has 1 and 1 when it is made");
        for (int size = 1; size <= 11; size++) {
            for (int turn = 1; turn <= 2; turn++) {
                HexTable x = new HexTable(size);
                x.turn(turn);
                due.is("search(1)", x.search(1), 0);
                due.is("NODES", x.about(6), 1);
                nodeIs(x, 0, -1, -1, 1, 1, -1, 0);
                strategyIs(x);
            }
        }
    }

    private static void oneNodeTooMany() {
        due.by("III: if there would be more than BUDGET nodes, none is, and the search ends");
        for (int size = 2; size <= 11; size++) {
            int cells = size * size;
            HexTable x = new HexTable(size);
            due.is("too few by one", x.search(cells), 0);
            due.is("NODES", x.about(6), 1);
            nodeIs(x, 0, -1, -1, 1, 1, -1, 0);
            due.is("just enough", x.search(cells + 1), 0);
            due.is("NODES", x.about(6), cells + 1);
            nodeIs(x, 0, -1, -1, 1, cells, 1, cells);
            nodeIs(x, 1, 0, 0, 1, 1, -1, 0);
            nodeIs(x, cells, cells - 1, 0, 1, 1, -1, 0);
            x.set(size - 1, 0, 2);
            due.is("a cell less, too few by one", x.search(cells - 1), 0);
            due.is("NODES", x.about(6), 1);
            due.is("a cell less, just enough", x.search(cells), 0);
            due.is("NODES", x.about(6), cells);
            due.is("by number, without the stone's", x.node(size, 0), size);
        }
    }

    /** The root has 4 children, they have 3 each, and are all taken before any of theirs. */
    private static void everyBudgetOfASmallBoard() {
        due.by("III: if there would be more than BUDGET nodes, none is: every BUDGET");
        HexTable x = new HexTable(2);
        int[] made = {1, 1, 1, 1, 5, 5, 5, 8, 8, 8, 11, 11, 11, 14, 14, 14, 17, 17, 19};
        for (int budget = 1; budget <= made.length; budget++) {
            due.is("search(" + budget + ")", x.search(budget), 0);
            due.is("NODES of " + budget, x.about(6), made[budget - 1]);
            due.is("entries of " + budget, x.about(7), 0);
        }
        due.is("search(30)", x.search(30), 0);
        due.is("search(31)", x.search(31), 1);
        due.is("NODES", x.about(6), 31);
    }

    /** 1 + 94 + 85 * 93 nodes: the root's children one by one, each when the one ahead of it has PROOF 93. */
    private static void exactly8000Nodes() {
        due.by("III: more than BUDGET nodes: 8000 are not more than 8000");
        HexTable x = Given.board(11, WIDE);
        due.is("search(8000)", x.search(8000), 0);
        due.is("NODES", x.about(6), 8000);
        nodeIs(x, 0, -1, -1, 1, 94, 1, 94);
        nodeIs(x, 1, 0, 0, 93, 1, 95, 93);
        nodeIs(x, 85, 111, 0, 93, 1, 7907, 93);
        nodeIs(x, 86, 112, 0, 1, 1, -1, 0);
        nodeIs(x, 7907, 0, 85, 1, 1, -1, 0);
        nodeIs(x, 7999, 120, 85, 1, 1, -1, 0);
        nodeIs(x, 8000, -1, -1, -1, -1, -1, -1);
        due.is("search(7999)", x.search(7999), 0);
        due.is("NODES", x.about(6), 7907);
        nodeIs(x, 85, 111, 0, 1, 1, -1, 0);
        nodeIs(x, 7906, 120, 84, 1, 1, -1, 0);
        nodeIs(x, 7907, -1, -1, -1, -1, -1, -1);
    }

    private static void oneEmptyCell() {
        due.by("III: for each EMPTY cell there: just one is left");
        for (int size = 1; size <= 11; size++) {
            for (int turn = 1; turn <= 2; turn++) {
                HexTable x = Given.playedToTheLastCell(size, 1);
                x.turn(turn);
                due.is("search(1)", x.search(1), 0);
                due.is("search(2)", x.search(2), turn);
                due.is("NODES", x.about(6), 2);
                nodeIs(x, 0, -1, -1, 0, SURE, 1, 1);
                nodeIs(x, 1, Given.middle(size), 0, 0, SURE, -1, 0);
                strategyIs(x, new int[] {-1, Given.middle(size)});
            }
        }
    }

    private static void firstWins() {
        due.by("III: A node at which FIRST WINS has PROOF 0, DISPROOF 1000000000");
        HexTable one = Given.board(2, "1. .2");
        due.is("side 1", one.search(3), 1);
        nodeIs(one, 1, 1, 0, 1, 1, -1, 0);
        nodeIs(one, 2, 2, 0, 0, SURE, -1, 0);
        HexTable two = Given.board(2, "2. .1");
        two.turn(2);
        due.is("side 2", two.search(3), 2);
        nodeIs(two, 1, 1, 0, 0, SURE, -1, 0);
        nodeIs(two, 2, 2, 0, 1, 1, -1, 0);
    }

    private static void theOtherWins() {
        due.by("III: at which the other WINS these turned");
        HexTable one = Given.board(2, "21 ..");
        one.turn(2);
        due.is("side 1 is the other", one.search(4), 0);
        nodeIs(one, 3, 3, 1, SURE, 0, -1, 0);
        nodeIs(one, 1, 2, 0, SURE, 0, 3, 1);
        nodeIs(one, 2, 3, 0, 1, 1, -1, 0);
        nodeIs(one, 0, -1, -1, 1, 1, 1, 2);
        HexTable two = Given.board(2, "1. 2.");
        due.is("side 2 is the other", two.search(4), 0);
        nodeIs(two, 3, 3, 1, SURE, 0, -1, 0);
        nodeIs(two, 1, 1, 0, SURE, 0, 3, 1);
        nodeIs(two, 0, -1, -1, 1, 1, 1, 2);
    }

    private static void sumsStopAtTheirMost() {
        due.by("III: the sum of theirs (1000000000 at most)");
        HexTable three = Given.board(2, ".1 ..");
        due.is("two of three win", three.search(4), 1);
        nodeIs(three, 0, -1, -1, 0, SURE, 1, 3);
        HexTable first = Given.board(11, ONE_LINE_MORE);
        due.is("eleven of a hundred and one win", first.search(102), 1);
        nodeIs(first, 0, -1, -1, 0, SURE, 1, 101);
        nodeIs(first, 90, 98, 0, 1, 1, -1, 0);
        nodeIs(first, 91, 110, 0, 0, SURE, -1, 0);
        nodeIs(first, 101, 120, 0, 0, SURE, -1, 0);
        HexTable other = Given.board(11, ONE_LINE_MORE);
        other.turn(2);
        due.is("the same for the other one", other.search(202), 0);
        nodeIs(other, 0, -1, -1, 1, 100, 1, 101);
        nodeIs(other, 1, 0, 0, SURE, 0, 102, 100);
        nodeIs(other, 190, 98, 1, 1, 1, -1, 0);
        nodeIs(other, 191, 110, 1, SURE, 0, -1, 0);
        nodeIs(other, 201, 120, 1, SURE, 0, -1, 0);
    }

    private static void sumsBelowTheirMost() {
        due.by("III: FIRST's TURN: PROOF the least, DISPROOF the sum; the other's: PROOF the sum, DISPROOF the least");
        HexTable x = Given.board(11, ONE_LINE_MORE);
        x.turn(2);
        due.is("search(8000)", x.search(8000), 0);
        due.is("NODES: 78 of the root's children have some", x.about(6), 1 + 101 + 78 * 100);
        nodeIs(x, 0, -1, -1, 1, 23, 1, 101);
        due.is("the last with children", x.node(78, 3), 0);
        due.is("the first without", x.node(79, 3), 1);
        HexTable empty = new HexTable(11);
        due.is("search(242)", empty.search(242), 0);
        nodeIs(empty, 0, -1, -1, 1, 121, 1, 121);
        nodeIs(empty, 1, 0, 0, 120, 1, 122, 120);
    }

    private static void firstChildOfThoseWithTheLeast() {
        due.by("III: on to the first child with the least PROOF (FIRST's TURN) or the least DISPROOF (else)");
        for (int turn = 1; turn <= 2; turn++) {
            HexTable x = new HexTable(2);
            x.turn(turn);
            x.search(19);
            // Node 5 has a child that wins for side 1, but none that wins for side 2.
            nodeIs(x, 0, -1, -1, turn == 1 ? 2 : 3, 4, 1, 4);
            for (int child = 1; child <= 4; child++) {
                due.is("first child of " + child, x.node(child, 4), 2 + 3 * child);
                due.is("children of " + child, x.node(child, 5), 3);
            }
            due.is("then the first of the first", x.node(5, 4), 17);
            due.is("it has two", x.node(5, 5), 2);
            for (int child = 6; child <= 16; child++) {
                due.is("none of " + child, x.node(child, 5), 0);
            }
        }
    }

    private static void endsAsSoonAsItIsFound() {
        due.by("III: As long as neither PROOF nor DISPROOF of the root is 0");
        HexTable first = Given.board(11, ONE_LINE_MORE);
        due.is("with all that is allowed", first.search(8000), 1);
        due.is("NODES", first.about(6), 102);
        HexTable one = new HexTable(1);
        due.is("one cell", one.search(8000), 1);
        due.is("NODES", one.about(6), 2);
        HexTable other = Given.board(2, "21 ..");
        other.turn(2);
        due.is("the other one", other.search(8000), 1);
        due.is("NODES", other.about(6), 5);
    }

    private static void theOtherIsFound() {
        due.by("III: It finds FIRST, if PROOF of the root is 0; the other one, if DISPROOF is");
        HexTable one = Given.board(2, "21 ..");
        one.turn(2);
        due.is("side 1 is found", one.search(5), 1);
        nodeIs(one, 0, -1, -1, SURE, 0, 1, 2);
        strategyIs(one, new int[] {-1, 2}, new int[] {0, 3}, new int[] {-1, 3}, new int[] {2, 2});
        HexTable two = Given.board(2, "1. 2.");
        due.is("side 2 is found", two.search(5), 2);
        nodeIs(two, 0, -1, -1, SURE, 0, 1, 2);
        strategyIs(two, new int[] {-1, 1}, new int[] {0, 3}, new int[] {-1, 3}, new int[] {2, 1});
    }

    private static void nobodyIsFound() {
        due.by("III: (Nobody is found: empty.)");
        HexTable x = new HexTable(2);
        x.search(31);
        due.is("entries", x.about(7), 7);
        due.is("nobody", x.search(30), 0);
        strategyIs(x);
        due.is("nothing to load", x.load(), 0);
        HexTable large = new HexTable(11);
        due.is("nobody", large.search(8000), 0);
        strategyIs(large);
    }

    private static void nodesWithoutASearch() {
        due.by("8: 6 NODES of the latest search (0 without)");
        for (int size = 1; size <= 11; size++) {
            HexTable x = new HexTable(size);
            x.search(0);
            x.search(8001);
            x.play(0, 0);
            due.is("NODES", x.about(6), 0);
            nodeIs(x, 0, -1, -1, -1, -1, -1, -1);
        }
    }

    private static void numbersThatAreNoNode() {
        due.by("12: NONE for others: no node");
        int[] budgets = {1, 5, 31};
        for (int budget : budgets) {
            HexTable x = new HexTable(2);
            x.search(budget);
            for (int i : Given.notBelow(budget)) {
                nodeIs(x, i, -1, -1, -1, -1, -1, -1);
            }
            due.is("the last one is there", x.node(budget - 1, 2) >= 0, true);
        }
    }

    private static void nodeOtherNumbers() {
        due.by("12: NONE for others: no such number");
        HexTable x = Given.busy(1);
        int[] some = {0, 1, 30, 31, -1};
        for (int i : some) {
            for (int what : Given.noKinds(6)) {
                due.is("node(" + i + ", " + what + ")", x.node(i, what), -1);
            }
        }
    }

    private static void rootHasNothingAhead() {
        due.by("12: 0 the cell of its play (NONE of the root), 1 the node ahead (NONE)");
        HexTable x = Given.busy(1);
        due.is("the root's cell", x.node(0, 0), -1);
        due.is("ahead of the root", x.node(0, 1), -1);
        for (int i = 1; i < 31; i++) {
            int ahead = x.node(i, 1);
            due.is("a cell of " + i, x.node(i, 0) >= 0 && x.node(i, 0) < 4, true);
            due.is("ahead of " + i, ahead >= 0 && ahead < i, true);
            due.is(i + " is among its children", i >= x.node(ahead, 4) && i < x.node(ahead, 4) + x.node(ahead, 5), true);
        }
    }

    private static void withoutChildren() {
        due.by("12: 4 its first child (NONE without), 5 how many");
        HexTable x = new HexTable(2);
        x.search(8);
        for (int i = 2; i < 8; i++) {
            due.is("first child of " + i, x.node(i, 4), -1);
            due.is("children of " + i, x.node(i, 5), 0);
        }
        due.is("first child of 1", x.node(1, 4), 5);
        due.is("children of 1", x.node(1, 5), 3);
    }

    private static void latestSearch() {
        due.by("12: Of node i of the latest search");
        HexTable x = Given.busy(1);
        due.is("a shorter one", x.search(5), 0);
        due.is("NODES", x.about(6), 5);
        nodeIs(x, 5, -1, -1, -1, -1, -1, -1);
        nodeIs(x, 1, 0, 0, 1, 1, -1, 0);
        strategyIs(x);
        x.set(0, 0, 1);
        due.is("of another board", x.search(4), 1);
        nodeIs(x, 1, 1, 0, 1, 1, -1, 0);
        nodeIs(x, 2, 2, 0, 0, SURE, -1, 0);
        strategyIs(x, new int[] {-1, 2});
    }

    private static void nodesStayWhenTheBoardGoes() {
        due.by("12, 13: of the latest search, whatever the board has become");
        HexTable x = new HexTable(1);
        x.search(2);
        x.play(0, 0);
        x.undo();
        x.set(0, 0, 2);
        x.turn(2);
        x.plant(-1, 7);
        x.prune(0);
        due.is("NODES", x.about(6), 2);
        nodeIs(x, 0, -1, -1, 0, SURE, 1, 1);
        nodeIs(x, 1, 0, 0, 0, SURE, -1, 0);
        strategyIs(x, new int[] {-1, 0});
    }

    private static void strategyWithoutASearch() {
        due.by("13: NONE - 2 for others: an empty STRATEGY");
        HexTable x = new HexTable(3);
        strategyIs(x);
        x.search(5);
        for (int i : Given.notBelow(0)) {
            due.is("strategy(" + i + ", 0)", x.strategy(i, 0), -3);
            due.is("strategy(" + i + ", 1)", x.strategy(i, 1), -3);
        }
    }

    private static void strategyNumbers() {
        due.by("13: NONE - 2 for others: no entry");
        HexTable x = Given.busy(1);
        for (int i : Given.notBelow(7)) {
            due.is("strategy(" + i + ", 0)", x.strategy(i, 0), -3);
            due.is("strategy(" + i + ", 1)", x.strategy(i, 1), -3);
        }
        due.is("the last one is there", x.strategy(6, 0), 5);
        due.is("the last one is there", x.strategy(6, 1), 2);
    }

    private static void strategyOtherNumbers() {
        due.by("13: NONE - 2 for others: no such number");
        HexTable x = Given.busy(1);
        int[] some = {0, 1, 6, 7, -1};
        for (int i : some) {
            for (int what : Given.noKinds(2)) {
                due.is("strategy(" + i + ", " + what + ")", x.strategy(i, what), -3);
            }
        }
    }

    private static void strategyEndsWithAWin() {
        due.by("III: if that side WINS there, none; if it is its TURN, the first child at which PROOF is 0");
        HexTable two = Given.board(2, ".1 ..");
        two.search(8000);
        strategyIs(two, new int[] {-1, 2});
        HexTable eleven = Given.board(11, ONE_LINE_MORE);
        eleven.search(8000);
        strategyIs(eleven, new int[] {-1, 110});
    }

    private static void strategyOfEachReply() {
        due.by("III: entries, each a play and the entry that it comes behind (NONE: the root), numbered as they come");
        HexTable x = new HexTable(2);
        x.search(8000);
        strategyIs(x, new int[] {-1, 1}, new int[] {0, 0}, new int[] {1, 2}, new int[] {0, 2}, new int[] {3, 3},
            new int[] {0, 3}, new int[] {5, 2});
        HexTable replies = Given.board(2, ".1 ..");
        replies.turn(2);
        due.is("the other one begins", replies.search(8000), 1);
        strategyIs(replies, new int[] {-1, 0}, new int[] {0, 2}, new int[] {-1, 2}, new int[] {2, 3},
            new int[] {-1, 3}, new int[] {4, 2});
    }

    private static void readingChangesNothing() {
        due.by("12, 13: what is only read stays");
        twins.unchangedInEveryState("node, strategy", x -> {
            for (int i = -1; i < 8; i++) {
                for (int what = -1; what < 7; what++) {
                    x.node(i, what);
                    x.strategy(i, what);
                }
            }
        });
    }

    private static void manySearches() {
        due.by("An object is used for at most 512 calls after it has been made");
        HexTable x = new HexTable(2);
        for (int k = 0; k < 511; k++) {
            int budget = k % 2 == 0 ? 8000 : 30;
            due.is("search " + k, x.search(budget), k % 2 == 0 ? 1 : 0);
        }
        due.is("call 512", x.about(7), 7);
    }
}
