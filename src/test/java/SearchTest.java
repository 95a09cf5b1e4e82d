/** Promises 11 to 13: search, node, strategy. */
public final class SearchTest {
    private static final Due due = new Due("SearchTest");
    private static final int SURE = 1000000000;

    public static void main(String[] args) {
        wrongBudgets();
        nothingIsDoneBehindAWin();
        budgets();
        firstExpansion();
        oneCellOfEachSide();
        nodesByHand();
        wrongNodes();
        theOtherOneIsFound();
        secondSideIsFirst();
        strategyByHand();
        nobodyIsFound();
        boardStays();
        latestSearchCounts();
        sumsStayAtTheirMost();
        deepSearch();
        due.end();
    }

    private static void nodeIs(HexTable x, int i, int... want) {
        for (int what = 0; what < 6; what++) {
            due.is("node(" + i + ", " + what + ")", x.node(i, what), want[what]);
        }
    }

    private static void strategyIs(HexTable x, int[][] want) {
        due.is("entries", x.about(7), want.length);
        for (int i = 0; i < want.length; i++) {
            due.is("strategy(" + i + ", 0)", x.strategy(i, 0), want[i][0]);
            due.is("strategy(" + i + ", 1)", x.strategy(i, 1), want[i][1]);
        }
        due.is("no more entries", x.strategy(want.length, 0), -3);
        due.is("no more entries", x.strategy(want.length, 1), -3);
    }

    private static void wrongBudgets() {
        HexTable x = new HexTable(2);
        int[] none = {Integer.MIN_VALUE, -1, 0, 8001, Integer.MAX_VALUE};
        for (int budget : none) {
            due.is("search(" + budget + ")", x.search(budget), -1);
            due.is("nothing is done", x.about(6), 0);
        }
        x.search(8000);
        for (int budget : none) {
            due.is("search(" + budget + ") again", x.search(budget), -1);
            due.is("nodes stay", x.about(6), 31);
            due.is("entries stay", x.about(7), 7);
        }
    }

    private static void nothingIsDoneBehindAWin() {
        HexTable x = new HexTable(2);
        x.search(8000);
        x.set(0, 0, 1);
        x.set(0, 1, 1);
        due.is("1 wins", x.search(8000), -1);
        due.is("nodes stay", x.about(6), 31);
        x.set(1, 0, 2);
        x.set(0, 1, 2);
        due.is("2 wins", x.search(1), -1);
        due.is("entries stay", x.about(7), 7);
    }

    private static void budgets() {
        HexTable x = new HexTable(2);
        int[] budget = {1, 4, 5, 7, 8, 30, 31, 8000};
        int[] found = {0, 0, 0, 0, 0, 0, 1, 1};
        int[] nodes = {1, 1, 5, 5, 8, 29, 31, 31};
        for (int k = 0; k < budget.length; k++) {
            due.is("search(" + budget[k] + ")", x.search(budget[k]), found[k]);
            due.is("nodes of search(" + budget[k] + ")", x.about(6), nodes[k]);
            due.is("entries of search(" + budget[k] + ")", x.about(7), found[k] == 0 ? 0 : 7);
        }
    }

    private static void firstExpansion() {
        HexTable x = new HexTable(11);
        x.set(3, 0, 2);
        x.search(120);
        due.is("one too many", x.about(6), 1);
        nodeIs(x, 0, -1, -1, 1, 1, -1, 0);
        x.search(121);
        due.is("just enough", x.about(6), 121);
        nodeIs(x, 0, -1, -1, 1, 120, 1, 120);
        nodeIs(x, 3, 2, 0, 1, 1, -1, 0);
        nodeIs(x, 4, 4, 0, 1, 1, -1, 0);
        nodeIs(x, 120, 120, 0, 1, 1, -1, 0);
    }

    private static void oneCellOfEachSide() {
        for (int side = 1; side <= 2; side++) {
            HexTable x = new HexTable(1);
            x.turn(side);
            due.is("one node", x.search(1), 0);
            nodeIs(x, 0, -1, -1, 1, 1, -1, 0);
            due.is("two nodes", x.search(2), side);
            nodeIs(x, 0, -1, -1, 0, SURE, 1, 1);
            nodeIs(x, 1, 0, 0, 0, SURE, -1, 0);
            strategyIs(x, new int[][] {{-1, 0}});
        }
    }

    /**
     * Size 2, side 1's TURN, cell 0 of side 1, cell 3 of side 2: the play at 2 wins at once, the
     * play at 1 doesn't. The root's children settle it.
     */
    private static void nodesByHand() {
        HexTable x = new HexTable(2);
        x.set(0, 0, 1);
        x.set(1, 1, 2);
        due.is("found", x.search(3), 1);
        nodeIs(x, 0, -1, -1, 0, SURE, 1, 2);
        nodeIs(x, 1, 1, 0, 1, 1, -1, 0);
        nodeIs(x, 2, 2, 0, 0, SURE, -1, 0);
        strategyIs(x, new int[][] {{-1, 2}});
    }

    private static void wrongNodes() {
        HexTable x = new HexTable(2);
        x.search(8000);
        int[] none = {Integer.MIN_VALUE, -1, 31, 32, 8000, Integer.MAX_VALUE};
        for (int i : none) {
            for (int what = 0; what < 6; what++) {
                due.is("node(" + i + ", " + what + ")", x.node(i, what), -1);
            }
            due.is("strategy(" + i + ", 0)", x.strategy(i, 0), -3);
            due.is("strategy(" + i + ", 1)", x.strategy(i, 1), -3);
        }
        int[] whats = {Integer.MIN_VALUE, -1, 6, Integer.MAX_VALUE};
        for (int what : whats) {
            due.is("node(0, " + what + ")", x.node(0, what), -1);
            due.is("strategy(0, " + what + ")", x.strategy(0, what), -3);
        }
        due.is("strategy(0, 2)", x.strategy(0, 2), -3);
    }

    /**
     * Size 2, cell 1 of side 1, cell 0 of side 2, side 2's TURN: FIRST is 2, and 1 joins at 2 or 3,
     * whichever is left. Root: nodes 1 (cell 2) and 2 (cell 3).
     */
    private static void theOtherOneIsFound() {
        HexTable x = new HexTable(2);
        x.set(1, 0, 1);
        x.set(0, 0, 2);
        x.turn(2);
        due.is("found", x.search(8000), 1);
        nodeIs(x, 0, -1, -1, SURE, 0, 1, 2);
        nodeIs(x, 1, 2, 0, SURE, 0, 3, 1);
        nodeIs(x, 2, 3, 0, SURE, 0, 4, 1);
        nodeIs(x, 3, 3, 1, SURE, 0, -1, 0);
        nodeIs(x, 4, 2, 2, SURE, 0, -1, 0);
        strategyIs(x, new int[][] {{-1, 2}, {0, 3}, {-1, 3}, {2, 2}});
    }

    /** The empty board of size 2 turned over its long diagonal: the same nodes, other cells. */
    private static void secondSideIsFirst() {
        HexTable one = new HexTable(2);
        HexTable two = new HexTable(2);
        two.turn(2);
        due.is("first of 1", one.search(8000), 1);
        due.is("first of 2", two.search(8000), 2);
        due.is("root of 2: PROOF", two.node(0, 2), 0);
        due.is("root of 2: DISPROOF", two.node(0, 3), SURE);
        two.load();
        due.is("it holds for 2", two.check(2), 0);
    }

    private static void strategyByHand() {
        HexTable x = new HexTable(2);
        x.set(1, 0, 1);
        x.turn(2);
        due.is("found", x.search(8000), 1);
        strategyIs(x, new int[][] {{-1, 0}, {0, 2}, {-1, 2}, {2, 3}, {-1, 3}, {4, 2}});
    }

    private static void nobodyIsFound() {
        HexTable x = new HexTable(2);
        x.search(8000);
        due.is("found", x.about(7), 7);
        due.is("nobody", x.search(20), 0);
        strategyIs(x, new int[0][]);
        due.is("loads nothing", x.load(), 0);
        HexTable large = new HexTable(11);
        due.is("nobody on a large one", large.search(8000), 0);
        due.is("nodes are within the budget", large.about(6) <= 8000, true);
        due.is("the next would not have been", large.about(6) + 121 > 8000, true);
    }

    private static void boardStays() {
        HexTable x = new HexTable(3);
        x.play(1, 1);
        x.play(0, 0);
        x.search(8000);
        int[] want = {2, 0, 0, 0, 1, 0, 0, 0, 0};
        for (int place = 0; place < 9; place++) {
            due.is("cell " + place, x.cell(place % 3, place / 3), want[place]);
        }
        due.is("turn", x.about(1), 1);
        due.is("plays", x.about(2), 2);
        due.is("undo", x.undo(), 0);
        due.is("undo", x.undo(), 4);
        x.search(50);
        due.is("all empty behind a search that ended early", x.about(4), 9);
    }

    private static void latestSearchCounts() {
        HexTable x = new HexTable(3);
        x.search(8000);
        due.is("nodes of the first", x.about(6), 3190);
        x.play(1, 1);
        due.is("nodes stay behind a play", x.about(6), 3190);
        due.is("node stays behind a play", x.node(1, 2), 18);
        due.is("found of the second", x.search(8000), 1);
        due.is("root of the second", x.node(0, 3), 0);
        due.is("children of the second", x.node(0, 5), 8);
        due.is("first cell of the second", x.node(1, 0), 0);
        due.is("fifth cell of the second", x.node(5, 0), 5);
    }

    private static void sumsStayAtTheirMost() {
        HexTable x = new HexTable(3);
        x.search(8000);
        for (int i = 0; i < x.about(6); i++) {
            int proof = x.node(i, 2);
            int disproof = x.node(i, 3);
            due.is("PROOF of " + i, proof >= 0 && proof <= SURE, true);
            due.is("settled " + i, proof == 0, disproof == SURE);
            due.is("settled " + i, disproof == 0, proof == SURE);
        }
    }

    /** A strategy with ways of 15 plays: the nodes are those that PlainHex counts, too. */
    private static void deepSearch() {
        String stones = "1102000000001000100001221";
        HexTable x = new HexTable(5);
        for (int place = 0; place < 25; place++) {
            x.set(place % 5, place / 5, stones.charAt(place) - '0');
        }
        due.is("found", x.search(8000), 1);
        due.is("nodes", x.about(6), 7633);
        int[] depth = new int[x.about(7)];
        int deepest = 0;
        for (int i = 0; i < depth.length; i++) {
            int ahead = x.strategy(i, 0);
            depth[i] = ahead == HexTable.NONE ? 1 : depth[ahead] + 1;
            deepest = Math.max(deepest, depth[i]);
        }
        due.is("deepest", deepest, 15);
        due.is("load", x.load(), depth.length);
        due.is("it holds", x.check(1), 0);
        due.is("the board stays", x.about(4), 16);
    }
}
