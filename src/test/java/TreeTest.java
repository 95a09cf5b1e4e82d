/** Promises 14 to 17: load, plant, graft, prune. The tree is seen by way of check and about(8). */
public final class TreeTest {
    private static final Due due = new Due("TreeTest");

    public static void main(String[] args) {
        loading();
        loadingComesInPlace();
        planting();
        plantingIsRefused();
        plantingAnyCell();
        atMost8000();
        grafting();
        pruning();
        pruningIsRefused();
        due.end();
    }

    private static void loading() {
        HexTable x = new HexTable(2);
        due.is("nothing searched", x.load(), 0);
        due.is("search", x.search(8000), 1);
        due.is("not loaded by itself", x.about(8), 0);
        due.is("load", x.load(), 7);
        due.is("tree", x.about(8), 7);
        due.is("it holds", x.check(1), 0);
        due.is("strategy stays", x.about(7), 7);
        x.graft(0, 3);
        x.prune(5);
        due.is("strategy isn't the tree", x.strategy(0, 1), 1);
        due.is("strategy isn't pruned", x.about(7), 7);
        due.is("load again", x.load(), 7);
        due.is("holds again", x.check(1), 0);
        due.is("the tree stays when the search goes", x.search(1), 0);
        due.is("tree", x.about(8), 7);
        due.is("still holds", x.check(1), 0);
        due.is("load of nobody's", x.load(), 0);
        due.is("no tree", x.about(8), 0);
    }

    private static void loadingComesInPlace() {
        HexTable x = new HexTable(2);
        for (int k = 0; k < 20; k++) {
            x.plant(k - 1, k);
        }
        x.search(8000);
        due.is("load", x.load(), 7);
        due.is("only that", x.about(8), 7);
        due.is("holds", x.check(1), 0);
    }

    private static void planting() {
        HexTable x = new HexTable(2);
        due.is("root", x.plant(-1, 1), 0);
        due.is("behind 0", x.plant(0, 0), 1);
        due.is("behind 0", x.plant(0, 2), 2);
        due.is("behind 0", x.plant(0, 3), 3);
        due.is("behind 3", x.plant(3, 2), 4);
        due.is("behind 2", x.plant(2, 3), 5);
        due.is("behind 1", x.plant(1, 2), 6);
        due.is("tree", x.about(8), 7);
        due.is("holds in any order", x.check(1), 0);
        due.is("a second at the root", x.plant(-1, 0), 7);
        due.is("is wrong", x.check(1), 3);
    }

    private static void plantingIsRefused() {
        HexTable x = new HexTable(2);
        int[] none = {Integer.MIN_VALUE, -3, -2, 0, 1, 8000, Integer.MAX_VALUE};
        for (int ahead : none) {
            due.is("plant(" + ahead + ", 0)", x.plant(ahead, 0), -1);
        }
        due.is("none came", x.about(8), 0);
        due.is("one", x.plant(-1, 0), 0);
        due.is("not behind itself", x.plant(1, 0), -1);
        due.is("one still", x.about(8), 1);
        x.plant(0, 0);
        x.prune(1);
        due.is("not behind one that is pruned", x.plant(1, 0), -1);
    }

    private static void plantingAnyCell() {
        int[] cells = {Integer.MIN_VALUE, -1, 4, 121, Integer.MAX_VALUE};
        for (int cell : cells) {
            HexTable x = new HexTable(2);
            due.is("plant cell " + cell, x.plant(-1, cell), 0);
            due.is("is a play that can't be", x.check(1), 17);
        }
    }

    /** More calls than the document's 512, but nothing in the tree hangs on their number. */
    private static void atMost8000() {
        HexTable x = new HexTable(3);
        for (int i = 0; i < 8000; i++) {
            due.is("plant " + i, x.plant(i - 1, i % 9), i);
        }
        due.is("one more", x.plant(-1, 0), -1);
        due.is("one more", x.plant(7999, 0), -1);
        due.is("8000", x.about(8), 8000);
        due.is("check ends", x.check(1), 20);
        due.is("prune all", x.prune(8000), 8000);
        due.is("prune one", x.prune(7999), 7999);
        due.is("then one more", x.plant(7998, 0), 7999);
        due.is("graft the last", x.graft(7999, 5), true);
        due.is("graft beyond", x.graft(8000, 5), false);
        due.is("none", x.prune(0), 0);
        for (int i = 0; i < 8000; i++) {
            x.plant(-1, i);
        }
        due.is("wide tree", x.check(1), 3);
        due.is("wide tree", x.check(2), 4);
    }

    private static void grafting() {
        HexTable x = new HexTable(1);
        due.is("nothing to graft", x.graft(0, 0), false);
        x.plant(-1, 5);
        due.is("wrong", x.check(1), 17);
        due.is("graft", x.graft(0, 0), true);
        due.is("right", x.check(1), 0);
        int[] cells = {Integer.MIN_VALUE, -1, 1, Integer.MAX_VALUE};
        for (int cell : cells) {
            due.is("graft cell " + cell, x.graft(0, cell), true);
            due.is("can't be", x.check(1), 17);
        }
        int[] none = {Integer.MIN_VALUE, -1, 1, 2, 8000, Integer.MAX_VALUE};
        for (int i : none) {
            due.is("graft(" + i + ", 0)", x.graft(i, 0), false);
        }
        due.is("nothing changed", x.check(1), 17);
        due.is("as many", x.about(8), 1);
    }

    private static void pruning() {
        HexTable x = new HexTable(2);
        x.search(8000);
        x.load();
        due.is("all", x.prune(7), 7);
        due.is("holds", x.check(1), 0);
        due.is("one less", x.prune(6), 6);
        due.is("tree", x.about(8), 6);
        due.is("entry 5 has none behind it", x.check(1), 3 + 16 * 6);
        due.is("plant it again", x.plant(5, 2), 6);
        due.is("holds", x.check(1), 0);
        due.is("to none", x.prune(0), 0);
        due.is("tree", x.about(8), 0);
        due.is("none of none", x.prune(0), 0);
        due.is("root", x.check(1), 3);
    }

    private static void pruningIsRefused() {
        HexTable x = new HexTable(2);
        x.plant(-1, 0);
        x.plant(0, 1);
        int[] none = {Integer.MIN_VALUE, -1, 3, 8000, Integer.MAX_VALUE};
        for (int n : none) {
            due.is("prune(" + n + ")", x.prune(n), -1);
            due.is("nothing is done", x.about(8), 2);
        }
        x.prune(1);
        due.is("what was pruned is gone", x.prune(2), -1);
    }
}
