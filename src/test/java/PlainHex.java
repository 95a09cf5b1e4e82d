import java.util.ArrayList;
import java.util.HashMap;
import java.util.HashSet;
import java.util.List;
import java.util.Map;
import java.util.Set;

/**
 * The document once more, word by word and with no thought of time or room: recursion, sets, every
 * number reckoned anew from the leaves. It shares no way of working with HexTable.
 */
final class PlainHex {
    static final int SURE = 1000000000;

    record Cell(int x, int y) { }

    static final class Node {
        int number;
        int cell = -1;
        Node ahead;
        List<Node> children = new ArrayList<>();
        long proof = 1;
        long disproof = 1;
    }

    record Entry(int ahead, int cell) { }

    final int size;
    Map<Cell, Integer> stones = new HashMap<>();
    int turn = 1;
    List<Cell> plays = new ArrayList<>();
    List<Node> nodes = new ArrayList<>();
    List<Entry> strategy = new ArrayList<>();
    List<Entry> tree = new ArrayList<>();

    PlainHex(int size) {
        this.size = size < 1 ? 1 : size > 11 ? 11 : size;
    }

    // The board.

    boolean onBoard(Cell c) {
        return c.x() >= 0 && c.y() >= 0 && c.x() < size && c.y() < size;
    }

    Cell cellOf(int number) {
        return new Cell(number % size, number / size);
    }

    int numberOf(Cell c) {
        return size * c.y() + c.x();
    }

    int at(Cell c) {
        return stones.getOrDefault(c, 0);
    }

    static boolean neighbours(Cell a, Cell b) {
        int dx = b.x() - a.x();
        int dy = b.y() - a.y();
        return Math.abs(dx) <= 1 && Math.abs(dy) <= 1 && dx != dy;
    }

    Set<Cell> chainOf(Cell from) {
        Set<Cell> chain = new HashSet<>();
        join(from, at(from), chain);
        return chain;
    }

    private void join(Cell c, int side, Set<Cell> chain) {
        if (!onBoard(c) || at(c) != side || !chain.add(c)) {
            return;
        }
        for (int dy = -1; dy <= 1; dy++) {
            for (int dx = -1; dx <= 1; dx++) {
                Cell next = new Cell(c.x() + dx, c.y() + dy);
                if (neighbours(c, next)) {
                    join(next, side, chain);
                }
            }
        }
    }

    int winner() {
        for (int k = 0; k < size; k++) {
            Cell upper = new Cell(k, 0);
            if (at(upper) == 1 && chainOf(upper).stream().anyMatch(c -> c.y() == size - 1)) {
                return 1;
            }
            Cell left = new Cell(0, k);
            if (at(left) == 2 && chainOf(left).stream().anyMatch(c -> c.x() == size - 1)) {
                return 2;
            }
        }
        return 0;
    }

    List<Integer> empty() {
        List<Integer> list = new ArrayList<>();
        for (int number = 0; number < size * size; number++) {
            if (at(cellOf(number)) == 0) {
                list.add(number);
            }
        }
        return list;
    }

    boolean set(int x, int y, int side) {
        Cell c = new Cell(x, y);
        if (!onBoard(c) || side < 0 || side > 2) {
            return false;
        }
        stones.put(c, side);
        plays.clear();
        return true;
    }

    boolean turn(int side) {
        if (side != 1 && side != 2) {
            return false;
        }
        turn = side;
        plays.clear();
        return true;
    }

    boolean play(int x, int y) {
        Cell c = new Cell(x, y);
        if (!onBoard(c) || at(c) != 0 || winner() != 0) {
            return false;
        }
        stones.put(c, turn);
        plays.add(c);
        turn = turn == 1 ? 2 : 1;
        return true;
    }

    int undo() {
        if (plays.isEmpty()) {
            return -1;
        }
        Cell c = plays.remove(plays.size() - 1);
        turn = at(c);
        stones.put(c, 0);
        return numberOf(c);
    }

    int cell(int x, int y) {
        Cell c = new Cell(x, y);
        return onBoard(c) ? at(c) : -1;
    }

    int chain(int x, int y) {
        Cell c = new Cell(x, y);
        return !onBoard(c) || at(c) == 0 ? -1 : chainOf(c).stream().mapToInt(this::numberOf).min().getAsInt();
    }

    int about(int what) {
        if (what == 5) {
            Set<Integer> names = new HashSet<>();
            for (int number = 0; number < size * size; number++) {
                names.add(chain(number % size, number / size));
            }
            names.remove(-1);
            return names.size();
        }
        return what == 0 ? size : what == 1 ? turn : what == 2 ? plays.size() : what == 3 ? winner()
            : what == 4 ? empty().size() : what == 6 ? nodes.size() : what == 7 ? strategy.size()
            : what == 8 ? tree.size() : -1;
    }

    // The walk.

    int sideAround(Cell c) {
        if (onBoard(c)) {
            return at(c);
        }
        boolean line = (c.y() == -1 || c.y() == size) && c.x() >= -1 && c.x() <= size;
        boolean sharp = c.equals(new Cell(-1, -1)) || c.equals(new Cell(size, size));
        boolean column = (c.x() == -1 || c.x() == size) && c.y() >= 0 && c.y() <= size - 1;
        return line && !sharp ? 1 : column ? 2 : 0;
    }

    /** Every corner of the document, far enough around the board. */
    private List<Set<Cell>> corners() {
        List<Set<Cell>> all = new ArrayList<>();
        for (int y = -3; y <= size + 2; y++) {
            for (int x = -3; x <= size + 2; x++) {
                Cell right = new Cell(x + 1, y);
                Cell below = new Cell(x, y + 1);
                all.add(Set.of(new Cell(x, y), right, below));
                all.add(Set.of(right, below, new Cell(x + 1, y + 1)));
            }
        }
        return all;
    }

    /** The third cells of the walk, one a step. */
    List<Cell> steps() {
        List<Set<Cell>> corners = corners();
        List<Cell> steps = new ArrayList<>();
        Cell one = new Cell(0, -1);
        Cell two = new Cell(-1, 0);
        Set<Cell> from = Set.of(new Cell(-1, -1), one, two);
        while (true) {
            Set<Cell> next = null;
            for (Set<Cell> corner : corners) {
                if (corner.contains(one) && corner.contains(two) && !corner.equals(from)) {
                    next = corner;
                }
            }
            Set<Cell> rest = new HashSet<>(next);
            rest.remove(one);
            rest.remove(two);
            Cell third = rest.iterator().next();
            steps.add(third);
            if (sideAround(third) == 0) {
                return steps;
            }
            one = sideAround(third) == 1 ? third : one;
            two = sideAround(third) == 2 ? third : two;
            from = next;
        }
    }

    int walk() {
        return empty().isEmpty() ? steps().size() : -1;
    }

    int step(int i, int what) {
        if (!empty().isEmpty() || what < 0 || what > 2 || i < 0) {
            return -3;
        }
        List<Cell> steps = steps();
        if (i >= steps.size()) {
            return -3;
        }
        Cell c = steps.get(i);
        return what == 0 ? c.x() : what == 1 ? c.y() : sideAround(c);
    }

    // The search.

    private Node make(Node ahead, int cell) {
        Node node = new Node();
        node.number = nodes.size();
        node.ahead = ahead;
        node.cell = cell;
        nodes.add(node);
        return node;
    }

    private void reckon(Node node, boolean firstTurn) {
        if (node.children.isEmpty()) {
            return;
        }
        long leastProof = SURE;
        long leastDisproof = SURE;
        long sumProof = 0;
        long sumDisproof = 0;
        for (Node child : node.children) {
            leastProof = Math.min(leastProof, child.proof);
            leastDisproof = Math.min(leastDisproof, child.disproof);
            sumProof += child.proof;
            sumDisproof += child.disproof;
        }
        node.proof = firstTurn ? leastProof : Math.min(SURE, sumProof);
        node.disproof = firstTurn ? Math.min(SURE, sumDisproof) : leastDisproof;
    }

    /** One going down and up; false if the budget ends it. The stones stand as at the node. */
    private boolean visit(Node node, int first, int mover, int budget) {
        boolean went;
        int other = mover == 1 ? 2 : 1;
        if (node.children.isEmpty()) {
            List<Integer> empty = empty();
            if (nodes.size() + empty.size() > budget) {
                return false;
            }
            for (int cell : empty) {
                Node child = make(node, cell);
                node.children.add(child);
                stones.put(cellOf(cell), mover);
                int winner = winner();
                stones.put(cellOf(cell), 0);
                if (winner != 0) {
                    child.proof = winner == first ? 0 : SURE;
                    child.disproof = winner == first ? SURE : 0;
                }
            }
            went = true;
        } else {
            Node best = null;
            for (Node child : node.children) {
                long number = mover == first ? child.proof : child.disproof;
                if (best == null || number < (mover == first ? best.proof : best.disproof)) {
                    best = child;
                }
            }
            stones.put(cellOf(best.cell), mover);
            went = visit(best, first, other, budget);
            stones.put(cellOf(best.cell), 0);
        }
        reckon(node, mover == first);
        return went;
    }

    int search(int budget) {
        if (budget < 1 || budget > 8000 || winner() != 0) {
            return -1;
        }
        nodes = new ArrayList<>();
        strategy = new ArrayList<>();
        Node root = make(null, -1);
        while (root.proof != 0 && root.disproof != 0) {
            if (!visit(root, turn, turn, budget)) {
                break;
            }
        }
        int other = turn == 1 ? 2 : 1;
        int found = root.proof == 0 ? turn : root.disproof == 0 ? other : 0;
        if (found != 0) {
            tell(root, -1, found == turn, found == turn);
        }
        return found;
    }

    private void tell(Node node, int entry, boolean own, boolean byProof) {
        for (Node child : node.children) {
            if (!own || (byProof ? child.proof : child.disproof) == 0) {
                strategy.add(new Entry(entry, child.cell));
                tell(child, strategy.size() - 1, !own, byProof);
                if (own) {
                    return;
                }
            }
        }
    }

    int node(int i, int what) {
        if (i < 0 || i >= nodes.size()) {
            return -1;
        }
        Node node = nodes.get(i);
        return what == 0 ? node.cell : what == 1 ? (node.ahead == null ? -1 : node.ahead.number)
            : what == 2 ? (int) node.proof : what == 3 ? (int) node.disproof
            : what == 4 ? (node.children.isEmpty() ? -1 : node.children.get(0).number)
            : what == 5 ? node.children.size() : -1;
    }

    int strategy(int i, int what) {
        if (i < 0 || i >= strategy.size() || what < 0 || what > 1) {
            return -3;
        }
        return what == 0 ? strategy.get(i).ahead() : strategy.get(i).cell();
    }

    // The tree and its checker.

    int load() {
        tree = new ArrayList<>(strategy);
        return tree.size();
    }

    int plant(int ahead, int cell) {
        if (tree.size() >= 8000 || ahead < -1 || ahead >= tree.size()) {
            return -1;
        }
        tree.add(new Entry(ahead, cell));
        return tree.size() - 1;
    }

    boolean graft(int i, int cell) {
        if (i < 0 || i >= tree.size()) {
            return false;
        }
        tree.set(i, new Entry(tree.get(i).ahead(), cell));
        return true;
    }

    int prune(int n) {
        if (n < 0 || n > tree.size()) {
            return -1;
        }
        tree = new ArrayList<>(tree.subList(0, n));
        return n;
    }

    private boolean canBe(int cell) {
        return cell >= 0 && cell < size * size && at(cellOf(cell)) == 0;
    }

    private int faultAt(int entry, int side, int player, int other) {
        if (entry >= 0) {
            int cell = tree.get(entry).cell();
            if (!canBe(cell)) {
                return 1 + 16 * (entry + 1);
            }
            stones.put(cellOf(cell), player);
            int wrong = faultFrom(entry, side, other, player);
            stones.put(cellOf(cell), 0);
            return wrong;
        }
        return faultFrom(entry, side, other, player);
    }

    private int faultFrom(int entry, int side, int mover, int other) {
        List<Integer> behind = new ArrayList<>();
        List<Integer> cells = new ArrayList<>();
        for (int i = 0; i < tree.size(); i++) {
            if (tree.get(i).ahead() == entry) {
                behind.add(i);
                cells.add(tree.get(i).cell());
            }
        }
        int winner = winner();
        int told = 16 * (entry + 1);
        if (winner != 0) {
            return winner != side ? 5 + told : behind.isEmpty() ? 0 : 2 + told;
        }
        if (mover == side && behind.size() != 1) {
            return 3 + told;
        }
        List<Integer> sorted = new ArrayList<>(cells);
        sorted.sort(null);
        if (mover != side && !sorted.equals(empty())) {
            return 4 + told;
        }
        for (int next : behind) {
            int wrong = faultAt(next, side, mover, other);
            if (wrong != 0) {
                return wrong;
            }
        }
        return 0;
    }

    int check(int side) {
        if (side != 1 && side != 2 || winner() != 0) {
            return -1;
        }
        return faultAt(-1, side, turn == 1 ? 2 : 1, turn);
    }
}
