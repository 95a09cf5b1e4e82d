/** Promises 1 to 18 together: long runs of calls, each answer held against PlainHex's. The runs are the same every time. */
public final class ModelTest {
    private static final Due due = new Due("ModelTest");
    private static final int RUNS = 900;
    private static final int CALLS = 220;
    private static long seed = 20261116;

    private HexTable table;
    private PlainHex plain;
    private int size;

    public static void main(String[] args) {
        for (int run = 0; run < RUNS; run++) {
            new ModelTest().run(run);
        }
        due.end();
    }

    /** A number of 0 .. below - 1, from a row of numbers that is the same in every run of the test. */
    private static int draw(int below) {
        seed = seed * 6364136223846793005L + 1442695040888963407L;
        return (int) ((seed >>> 33) % below);
    }

    private static int drawOdd() {
        int[] odd = {Integer.MIN_VALUE, -3, -2, -1, 0, 1, 2, 3, 11, 12, 121, 8000, 8001, Integer.MAX_VALUE};
        return odd[draw(odd.length)];
    }

    private int drawLine() {
        return draw(25) == 0 ? drawOdd() : draw(size);
    }

    private int drawPlace() {
        return draw(25) == 0 ? drawOdd() : draw(size * size);
    }

    private int drawSide() {
        return draw(25) == 0 ? drawOdd() : 1 + draw(2);
    }

    private int drawIndex(int count) {
        return draw(12) == 0 || count == 0 ? drawOdd() : draw(count + 1);
    }

    private void run(int run) {
        int asked = draw(20) == 0 ? drawOdd() : draw(3) == 0 ? 1 + draw(11) : 1 + draw(5);
        table = new HexTable(asked);
        plain = new PlainHex(asked);
        size = plain.size;
        String name = "run " + run + " of size " + size;
        if (draw(2) == 0) {
            scatter(name, draw(101));
        }
        for (int call = 0; call < CALLS; call++) {
            int kind = draw(100);
            String told = name + ", call " + call;
            if (kind < 45) {
                boardCall(told, kind);
            } else if (kind < 65) {
                searchCall(told, kind);
            } else {
                treeCall(told, kind);
            }
        }
        compareAll(name);
    }

    /** Stones on about so many of a hundred cells. */
    private void scatter(String name, int percent) {
        for (int place = 0; place < size * size; place++) {
            if (draw(100) < percent) {
                int side = 1 + draw(2);
                due.is(name + " scatter", table.set(place % size, place / size, side),
                    plain.set(place % size, place / size, side));
            }
        }
    }

    private void boardCall(String name, int kind) {
        int x = drawLine();
        int y = drawLine();
        int side = drawSide();
        if (kind < 2) {
            scatter(name, draw(3) == 0 ? 100 : draw(101));
        } else if (kind < 7) {
            int stone = draw(3) == 0 ? 0 : side;
            due.is(name + " set", table.set(x, y, stone), plain.set(x, y, stone));
        } else if (kind < 9) {
            due.is(name + " turn", table.turn(side), plain.turn(side));
        } else if (kind < 18) {
            due.is(name + " play", table.play(x, y), plain.play(x, y));
        } else if (kind < 23) {
            due.is(name + " undo", table.undo(), plain.undo());
        } else if (kind < 27) {
            due.is(name + " cell", table.cell(x, y), plain.cell(x, y));
        } else if (kind < 31) {
            due.is(name + " chain", table.chain(x, y), plain.chain(x, y));
        } else if (kind < 39) {
            int what = draw(20) == 0 ? drawOdd() : draw(10);
            due.is(name + " about " + what, table.about(what), plain.about(what));
        } else if (kind < 41) {
            due.is(name + " walk", table.walk(), plain.walk());
        } else {
            int i = drawIndex(Math.max(0, plain.walk()));
            int what = draw(12) == 0 ? drawOdd() : draw(3);
            due.is(name + " step", table.step(i, what), plain.step(i, what));
        }
    }

    private void searchCall(String name, int kind) {
        if (kind < 48) {
            int budget = draw(12) == 0 ? drawOdd() : 1 + draw(draw(6) == 0 ? 2500 : 300);
            due.is(name + " search " + budget, table.search(budget), plain.search(budget));
            due.is(name + " nodes", table.about(6), plain.about(6));
            due.is(name + " entries", table.about(7), plain.about(7));
        } else if (kind < 58) {
            int i = drawIndex(plain.nodes.size());
            int what = draw(12) == 0 ? drawOdd() : draw(7);
            due.is(name + " node " + i + ", " + what, table.node(i, what), plain.node(i, what));
        } else {
            int i = drawIndex(plain.strategy.size());
            int what = draw(12) == 0 ? drawOdd() : draw(3);
            due.is(name + " strategy " + i + ", " + what, table.strategy(i, what), plain.strategy(i, what));
        }
    }

    private void treeCall(String name, int kind) {
        int i = drawIndex(plain.tree.size());
        int place = drawPlace();
        if (kind < 71) {
            due.is(name + " load", table.load(), plain.load());
        } else if (kind < 77) {
            int ahead = draw(3) == 0 ? HexTable.NONE : i;
            due.is(name + " plant", table.plant(ahead, place), plain.plant(ahead, place));
        } else if (kind < 81) {
            due.is(name + " graft", table.graft(i, place), plain.graft(i, place));
        } else if (kind < 83) {
            due.is(name + " prune " + i, table.prune(i), plain.prune(i));
        } else {
            int side = drawSide();
            due.is(name + " check " + side, table.check(side), plain.check(side));
        }
    }

    private void compareAll(String name) {
        for (int what = 0; what < 9; what++) {
            due.is(name + " at its end about " + what, table.about(what), plain.about(what));
        }
        for (int place = 0; place < size * size; place++) {
            due.is(name + " at its end cell " + place, table.cell(place % size, place / size),
                plain.cell(place % size, place / size));
        }
        for (int i = 0; i < plain.nodes.size(); i++) {
            for (int what = 0; what < 6; what++) {
                due.is(name + " at its end node " + i, table.node(i, what), plain.node(i, what));
            }
        }
        for (int i = 0; i < plain.strategy.size(); i++) {
            due.is(name + " at its end strategy " + i, table.strategy(i, 0), plain.strategy(i, 0));
            due.is(name + " at its end strategy " + i, table.strategy(i, 1), plain.strategy(i, 1));
        }
        for (int side = 1; side <= 2; side++) {
            due.is(name + " at its end check " + side, table.check(side), plain.check(side));
        }
    }
}
