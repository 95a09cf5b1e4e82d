/** Promises 1 to 8: a new object, set, turn, play, undo, cell, chain, about. */
public final class BoardTest {
    private static final Due due = new Due("BoardTest");
    private static final int[] FAR = {Integer.MIN_VALUE, -2, -1, 11, 12, 121, Integer.MAX_VALUE};

    public static void main(String[] args) {
        newObject();
        sizesAreTakenIn();
        setting();
        settingForgetsPlays();
        turning();
        playing();
        playingIsRefused();
        undoing();
        everyPlayComesBack();
        cells();
        neighbours();
        chainNames();
        winners();
        winnersNeedBothEdges();
        aboutOthers();
        due.end();
    }

    private static void newObject() {
        HexTable x = new HexTable(4);
        int[] want = {4, 1, 0, 0, 16, 0, 0, 0, 0};
        for (int what = 0; what < want.length; what++) {
            due.is("new about(" + what + ")", x.about(what), want[what]);
        }
        for (int place = 0; place < 16; place++) {
            due.is("new cell " + place, x.cell(place % 4, place / 4), 0);
        }
        due.is("new undo", x.undo(), HexTable.NONE);
        due.is("new node(0, 0)", x.node(0, 0), -1);
        due.is("new node(0, 2)", x.node(0, 2), -1);
        due.is("new strategy(0, 0)", x.strategy(0, 0), -3);
        due.is("new load", x.load(), 0);
    }

    private static void sizesAreTakenIn() {
        int[] asked = {Integer.MIN_VALUE, -1, 0, 1, 2, 10, 11, 12, Integer.MAX_VALUE};
        int[] taken = {1, 1, 1, 1, 2, 10, 11, 11, 11};
        for (int k = 0; k < asked.length; k++) {
            HexTable x = new HexTable(asked[k]);
            due.is("size of " + asked[k], x.about(0), taken[k]);
            due.is("empty of " + asked[k], x.about(4), taken[k] * taken[k]);
            due.is("last cell of " + asked[k], x.cell(taken[k] - 1, taken[k] - 1), 0);
            due.is("no cell of " + asked[k], x.cell(taken[k], 0), -1);
        }
    }

    private static void setting() {
        HexTable x = new HexTable(3);
        due.is("set 1", x.set(2, 0, 1), true);
        due.is("set 2", x.set(0, 2, 2), true);
        due.is("stone 1", x.cell(2, 0), 1);
        due.is("stone 2", x.cell(0, 2), 2);
        due.is("others stay", x.about(4), 7);
        due.is("turn stays", x.about(1), 1);
        due.is("set over", x.set(2, 0, 2), true);
        due.is("stone over", x.cell(2, 0), 2);
        due.is("set empty", x.set(2, 0, 0), true);
        due.is("now empty", x.cell(2, 0), 0);
        for (int far : FAR) {
            due.is("set x " + far, x.set(far, 1, 1), false);
            due.is("set y " + far, x.set(1, far, 1), false);
        }
        due.is("set x 3", x.set(3, 0, 1), false);
        due.is("set y 3", x.set(0, 3, 1), false);
        due.is("set side 3", x.set(1, 1, 3), false);
        due.is("set side -1", x.set(1, 1, -1), false);
        due.is("nothing changed", x.about(4), 8);
    }

    private static void settingForgetsPlays() {
        HexTable x = new HexTable(3);
        x.play(0, 0);
        x.play(1, 0);
        due.is("refused set", x.set(3, 3, 1), false);
        due.is("refused side", x.set(0, 0, 3), false);
        due.is("plays are kept", x.about(2), 2);
        due.is("set the same", x.set(0, 0, 1), true);
        due.is("plays are forgotten", x.about(2), 0);
        due.is("no undo", x.undo(), -1);
        due.is("stone of a play stays", x.cell(1, 0), 2);
        due.is("turn stays 1", x.about(1), 1);
    }

    private static void turning() {
        HexTable x = new HexTable(3);
        due.is("turn 2", x.turn(2), true);
        due.is("is 2", x.about(1), 2);
        x.play(1, 1);
        due.is("stone of 2", x.cell(1, 1), 2);
        due.is("then 1", x.about(1), 1);
        int[] none = {0, 3, -1, 4, Integer.MIN_VALUE, Integer.MAX_VALUE};
        for (int side : none) {
            due.is("turn " + side, x.turn(side), false);
        }
        due.is("refused keeps turn", x.about(1), 1);
        due.is("refused keeps plays", x.about(2), 1);
        due.is("turn 1 again", x.turn(1), true);
        due.is("forgets plays", x.about(2), 0);
        due.is("and no undo", x.undo(), -1);
        due.is("turn is still 1", x.about(1), 1);
        due.is("stone stays", x.cell(1, 1), 2);
    }

    private static void playing() {
        HexTable x = new HexTable(3);
        due.is("play", x.play(2, 1), true);
        due.is("cell", x.cell(2, 1), 1);
        due.is("turn", x.about(1), 2);
        due.is("play", x.play(1, 2), true);
        due.is("cell", x.cell(1, 2), 2);
        due.is("turn", x.about(1), 1);
        due.is("plays", x.about(2), 2);
        due.is("empty", x.about(4), 7);
    }

    private static void playingIsRefused() {
        HexTable x = new HexTable(2);
        for (int far : FAR) {
            due.is("play x " + far, x.play(far, 0), false);
            due.is("play y " + far, x.play(0, far), false);
        }
        due.is("play x 2", x.play(2, 0), false);
        due.is("play y 2", x.play(0, 2), false);
        due.is("play", x.play(0, 0), true);
        due.is("not empty", x.play(0, 0), false);
        due.is("turn stays", x.about(1), 2);
        due.is("plays stay", x.about(2), 1);
        due.is("play", x.play(1, 1), true);
        due.is("play wins", x.play(0, 1), true);
        due.is("1 wins", x.about(3), 1);
        due.is("no play behind a win", x.play(1, 0), false);
        due.is("turn is 2's", x.about(1), 2);
        due.is("plays are three", x.about(2), 3);
        due.is("stays empty", x.cell(1, 0), 0);
        due.is("set goes on", x.set(1, 0, 2), true);
    }

    private static void undoing() {
        HexTable x = new HexTable(3);
        x.set(0, 0, 2);
        x.play(1, 0);
        x.play(2, 2);
        due.is("undo", x.undo(), 8);
        due.is("empty again", x.cell(2, 2), 0);
        due.is("turn 2", x.about(1), 2);
        due.is("plays", x.about(2), 1);
        due.is("undo", x.undo(), 1);
        due.is("turn 1", x.about(1), 1);
        due.is("no more", x.undo(), -1);
        due.is("set stays", x.cell(0, 0), 2);
        due.is("turn still 1", x.about(1), 1);
        HexTable won = new HexTable(1);
        won.play(0, 0);
        due.is("a win is taken back", won.undo(), 0);
        due.is("nobody wins", won.about(3), 0);
        due.is("play again", won.play(0, 0), true);
    }

    /** Line by line all cells but the last line's, so that nobody wins before 110 plays. */
    private static void everyPlayComesBack() {
        HexTable x = new HexTable(11);
        int count = 0;
        for (int place = 0; place < 121; place++) {
            if (x.play(place % 11, place / 11)) {
                count++;
            }
        }
        due.is("plays that were taken", x.about(2), count);
        due.is("more than a line", count > 11, true);
        for (int place = count - 1; place >= 0; place--) {
            due.is("undo " + place, x.undo(), place);
        }
        due.is("all empty", x.about(4), 121);
        due.is("undo", x.undo(), -1);
    }

    private static void cells() {
        HexTable x = new HexTable(5);
        x.set(4, 0, 1);
        x.set(0, 4, 2);
        due.is("cell(4, 0)", x.cell(4, 0), 1);
        due.is("cell(0, 4)", x.cell(0, 4), 2);
        due.is("cell(4, 4)", x.cell(4, 4), 0);
        for (int far : FAR) {
            due.is("cell x " + far, x.cell(far, 0), -1);
            due.is("cell y " + far, x.cell(0, far), -1);
        }
        due.is("cell(5, 0)", x.cell(5, 0), -1);
        due.is("cell(0, 5)", x.cell(0, 5), -1);
    }

    /** All that touches the middle one joins it, all else does not. */
    private static void neighbours() {
        for (int y = 0; y < 5; y++) {
            for (int x = 0; x < 5; x++) {
                int dx = x - 2;
                int dy = y - 2;
                boolean near = dx == 0 && Math.abs(dy) == 1 || dy == 0 && Math.abs(dx) == 1
                        || dx == 1 && dy == -1 || dx == -1 && dy == 1;
                boolean same = dx == 0 && dy == 0;
                HexTable t = new HexTable(5);
                t.set(2, 2, 1);
                t.set(x, y, 1);
                due.is("chains with " + x + ", " + y, t.about(5), near || same ? 1 : 2);
                due.is("name with " + x + ", " + y, t.chain(2, 2), near ? Math.min(12, 5 * y + x) : 12);
                due.is("its name " + x + ", " + y, t.chain(x, y), near || same ? Math.min(12, 5 * y + x) : 5 * y + x);
                t.set(x, y, 2);
                due.is("chains of two sides " + x + ", " + y, t.about(5), same ? 1 : 2);
            }
        }
    }

    private static void chainNames() {
        HexTable x = new HexTable(11);
        due.is("empty has none", x.chain(5, 5), -1);
        for (int k = 0; k < 11; k++) {
            x.set(k, 10, 2);
            x.set(10, k, 2);
        }
        x.set(9, 1, 2);
        due.is("a long chain", x.chain(0, 10), 10);
        due.is("its other end", x.chain(10, 0), 10);
        due.is("chains", x.about(5), 1);
        x.set(10, 0, 0);
        due.is("least cell is on the next line", x.chain(0, 10), 20);
        x.set(10, 5, 1);
        due.is("cut", x.about(5), 3);
        due.is("upper part", x.chain(10, 4), 20);
        due.is("stone between", x.chain(10, 5), 65);
        due.is("lower part", x.chain(0, 10), 76);
        for (int far : FAR) {
            due.is("chain x " + far, x.chain(far, 0), -1);
            due.is("chain y " + far, x.chain(0, far), -1);
        }
    }

    private static void winners() {
        for (int size = 1; size <= 11; size++) {
            HexTable one = new HexTable(size);
            HexTable two = new HexTable(size);
            for (int k = 0; k < size; k++) {
                due.is("nobody yet", one.about(3) + two.about(3), 0);
                one.set(size / 2, k, 1);
                two.set(k, size / 2, 2);
            }
            due.is("1 wins " + size, one.about(3), 1);
            due.is("2 wins " + size, two.about(3), 2);
            one.set(size / 2, size / 2, 2);
            due.is("2 only with one cell", one.about(3), size == 1 ? 2 : 0);
        }
    }

    private static void winnersNeedBothEdges() {
        HexTable x = new HexTable(3);
        for (int k = 0; k < 3; k++) {
            x.set(k, 1, 1);
        }
        due.is("a line of 1 wins nothing", x.about(3), 0);
        x.set(0, 0, 1);
        due.is("one edge only", x.about(3), 0);
        x.set(2, 2, 1);
        due.is("both edges", x.about(3), 1);
        HexTable y = new HexTable(3);
        for (int k = 0; k < 3; k++) {
            y.set(1, k, 2);
        }
        due.is("a column of 2 wins nothing", y.about(3), 0);
        y.set(0, 0, 2);
        y.set(2, 2, 2);
        due.is("both edges of 2", y.about(3), 2);
        HexTable z = new HexTable(2);
        z.set(0, 0, 1);
        z.set(1, 1, 1);
        due.is("the long diagonal doesn't join", z.about(3), 0);
        z.set(1, 0, 2);
        z.set(0, 1, 2);
        due.is("the short one does", z.about(3), 2);
    }

    private static void aboutOthers() {
        HexTable x = new HexTable(2);
        due.is("about(9)", x.about(9), -1);
        due.is("about(-1)", x.about(-1), -1);
        due.is("about(max)", x.about(Integer.MAX_VALUE), -1);
        due.is("about(min)", x.about(Integer.MIN_VALUE), -1);
        x.search(8000);
        due.is("nodes", x.about(6), 31);
        due.is("entries", x.about(7), 7);
        due.is("tree", x.about(8), 0);
        x.load();
        due.is("tree", x.about(8), 7);
        x.set(0, 0, 1);
        x.set(0, 1, 1);
        due.is("nodes stay", x.about(6), 31);
        due.is("entries stay", x.about(7), 7);
    }
}
