import java.util.ArrayList;
import java.util.LinkedHashMap;
import java.util.List;
import java.util.Map;
import java.util.function.Supplier;

/** Boards, plays and trees that several tests begin with, and numbers that are no good. */
final class Given {
    private static final long INTS = 1L << 32;

    private Given() {
    }

    /** Stones by the number of their cells: '.', '1' or '2'; blanks between the lines. */
    static HexTable board(int size, String stones) {
        HexTable x = new HexTable(size);
        String cells = stones.replace(" ", "");
        for (int place = 0; place < cells.length(); place++) {
            if (cells.charAt(place) != '.') {
                x.set(place % size, place / size, cells.charAt(place) - '0');
            }
        }
        return x;
    }

    static HexTable filled(int size, int side) {
        return board(size, String.valueOf(side).repeat(size * size));
    }

    /** A new object with a tree: by twos the entry ahead and the cell. */
    static HexTable tree(int size, int... entries) {
        HexTable x = new HexTable(size);
        for (int k = 0; k + 1 < entries.length; k += 2) {
            x.plant(entries[k], entries[k + 1]);
        }
        return x;
    }

    /** Side 1's strategy for the empty board of size 2, as the search finds it. */
    static HexTable goodTree() {
        return tree(2, -1, 1, 0, 0, 1, 2, 0, 2, 3, 3, 0, 3, 5, 2);
    }

    static int middle(int size) {
        return size * (size / 2) + size / 2;
    }

    /**
     * Plays by turns on every cell but the middle one. All the rest of the middle column is side
     * 1's, all the rest of the middle line side 2's: so neither can pass the other but through the
     * middle, and whoever plays there last, wins.
     */
    static int[] playsToTheLastCell(int size, int begins) {
        List<Integer> ones = new ArrayList<>();
        List<Integer> twos = new ArrayList<>();
        List<Integer> rest = new ArrayList<>();
        for (int place = 0; place < size * size; place++) {
            boolean column = place % size == size / 2;
            boolean line = place / size == size / 2;
            if (column != line) {
                (column ? ones : twos).add(place);
            } else if (!column) {
                rest.add(place);
            }
        }
        int plays = size * size - 1;
        int ofOnes = begins == 1 ? plays - plays / 2 : plays / 2;
        for (int place : rest) {
            (ones.size() < ofOnes ? ones : twos).add(place);
        }
        int[] order = new int[plays];
        for (int k = 0; k < plays; k++) {
            order[k] = ((k % 2 == 0) == (begins == 1) ? ones : twos).get(k / 2);
        }
        return order;
    }

    static HexTable playedToTheLastCell(int size, int begins) {
        HexTable x = new HexTable(size);
        x.turn(begins);
        for (int place : playsToTheLastCell(size, begins)) {
            x.play(place % size, place / size);
        }
        return x;
    }

    /** A board of size 2 with a search, its strategy as the tree, and then these plays, by the cells' numbers. */
    static HexTable busy(int begins, int... plays) {
        HexTable x = new HexTable(2);
        x.search(8000);
        x.load();
        x.turn(begins);
        for (int place : plays) {
            x.play(place % 2, place / 2);
        }
        return x;
    }

    private static HexTable nobodyFound() {
        HexTable x = goodTree();
        x.search(20);
        x.set(0, 1, 2);
        return x;
    }

    private static HexTable wonByHand(int side) {
        HexTable x = busy(3 - side);
        x.set(1, 0, side);
        x.set(0, 1, side);
        return x;
    }

    private static HexTable full(int size, int begins) {
        HexTable x = playedToTheLastCell(size, begins);
        x.play(size / 2, size / 2);
        return x;
    }

    /** States in which a refused call must change nothing; each is made anew as often as it is asked for. */
    static Map<String, Supplier<HexTable>> states() {
        Map<String, Supplier<HexTable>> all = new LinkedHashMap<>();
        all.put("new", () -> new HexTable(3));
        all.put("new of size 1", () -> new HexTable(1));
        all.put("new of size 11", () -> new HexTable(11));
        all.put("searched", () -> busy(1));
        all.put("played", () -> busy(1, 0, 3));
        all.put("nobody found", Given::nobodyFound);
        all.putAll(wonStates());
        return all;
    }

    /** Those of them in which somebody WINS. */
    static Map<String, Supplier<HexTable>> wonStates() {
        Map<String, Supplier<HexTable>> all = new LinkedHashMap<>();
        all.put("1 wins by plays", () -> busy(1, 0, 3, 2));
        all.put("2 wins by plays", () -> busy(2, 0, 3, 1));
        all.put("1 wins by hand", () -> wonByHand(1));
        all.put("2 wins by hand", () -> wonByHand(2));
        all.put("full of plays, 1 wins", () -> full(3, 1));
        all.put("full of plays, 2 wins", () -> full(3, 2));
        all.put("full of size 1", () -> full(1, 1));
        all.put("full of size 11", () -> filled(11, 2));
        return all;
    }

    /** Numbers that are neither a line nor a column of a board. */
    static int[] noLines(int size) {
        return new int[] {Integer.MIN_VALUE, Integer.MIN_VALUE + 1, -size * size, -size, -2, -1,
            size, size + 1, 2 * size, size * size, 12, 121, Integer.MAX_VALUE - 1, Integer.MAX_VALUE};
    }

    /** Lines far off, the number of whose cells, SIZE * y + x, wraps around to one that the board has. */
    static int[] wrappedLines(int size) {
        List<Integer> lines = new ArrayList<>();
        for (long turns = -size; turns <= size; turns++) {
            for (long place = 0; place < size * size; place++) {
                long line = (turns * INTS + place) / size;
                boolean whole = line * size == turns * INTS + place;
                if (turns != 0 && whole && line == (int) line) {
                    lines.add((int) line);
                }
            }
        }
        return lines.stream().mapToInt(Integer::intValue).toArray();
    }

    static int[] noSides() {
        return new int[] {Integer.MIN_VALUE, -2, -1, 0, 3, 4, 257, 258, Integer.MAX_VALUE};
    }

    static int[] noBudgets() {
        return new int[] {Integer.MIN_VALUE, -8000, -1, 0, 8001, 16000, Integer.MAX_VALUE};
    }

    /** Numbers that are no entry, node or step where there are so many. */
    static int[] notBelow(int count) {
        return new int[] {Integer.MIN_VALUE, Integer.MIN_VALUE + 1, -8000, -2, -1, count, count + 1,
            count + 8000, Integer.MAX_VALUE - 1, Integer.MAX_VALUE};
    }

    /** Numbers that no kind of answer has, where there are so many kinds. */
    static int[] noKinds(int count) {
        return new int[] {Integer.MIN_VALUE, -count, -2, -1, count, count + 1, 256, Integer.MAX_VALUE};
    }
}
