import java.util.Arrays;

/**
 * The game of Hex on a table of size 1 to 11: chains, Gale's walk, a search by proof numbers that
 * keeps its tree, the strategy that it finds, and a checker of strategies.
 */
public final class HexTable {
    public static final int NONE = -1;

    /** For answers among which NONE itself has a meaning. */
    private static final int NO_ANSWER = NONE - 2;
    private static final int MOST_SIZE = 11;
    /** The most nodes of a search, and the most entries of a tree. */
    private static final int MOST_ROWS = 8000;
    /** Rows start short and are doubled, so that an object that is little used takes little room. */
    private static final int FIRST_ROWS = 16;
    /** A walk enters no corner twice, and a table of size 11 has 288 of them. */
    private static final int MOST_STEPS = 1000;
    private static final int SURE = 1000000000;

    private final Board board;
    /** Where the search and the checker put their stones, so that the board itself stays. */
    private final Board bench;
    private final Walker walker;
    private final Seeker seeker;
    private final Entries tree;
    private final Checker checker;
    private final int[] plays;
    private int playCount;
    private int mover;

    public HexTable(int size) {
        int taken = Math.max(1, Math.min(MOST_SIZE, size));
        board = new Board(taken);
        bench = new Board(taken);
        walker = new Walker(board);
        seeker = new Seeker(bench);
        tree = new Entries();
        checker = new Checker(bench, tree);
        plays = new int[taken * taken];
        playCount = 0;
        mover = 1;
    }

    public boolean set(int x, int y, int side) {
        int place = board.numberOf(x, y);
        if (place == NONE || side < 0 || side > 2) {
            return false;
        }
        board.put(place, side);
        playCount = 0;
        return true;
    }

    public boolean turn(int side) {
        if (!isSide(side)) {
            return false;
        }
        mover = side;
        playCount = 0;
        return true;
    }

    public boolean play(int x, int y) {
        int place = board.numberOf(x, y);
        if (!board.isEmpty(place) || board.winner() != 0 || playCount >= plays.length) {
            return false;
        }
        board.put(place, mover);
        plays[playCount] = place;
        playCount++;
        mover = otherSide(mover);
        return true;
    }

    public int undo() {
        if (playCount <= 0) {
            return NONE;
        }
        playCount--;
        int place = plays[playCount];
        board.put(place, 0);
        mover = otherSide(mover);
        return place;
    }

    public int cell(int x, int y) {
        int place = board.numberOf(x, y);
        return place == NONE ? NONE : board.stoneAt(place);
    }

    public int chain(int x, int y) {
        return board.chainName(board.numberOf(x, y));
    }

    public int about(int what) {
        switch (what) {
            case 0: return board.size;
            case 1: return mover;
            case 2: return playCount;
            case 3: return board.winner();
            case 4: return board.countEmpty();
            case 5: return board.countChains();
            case 6: return seeker.nodes.count;
            case 7: return seeker.plan.count;
            case 8: return tree.count;
            default: return NONE;
        }
    }

    public int walk() {
        return board.countEmpty() > 0 ? NONE : walker.follow(MOST_STEPS) + 1;
    }

    public int step(int i, int what) {
        if (i < 0 || i >= MOST_STEPS || board.countEmpty() > 0 || walker.follow(i) != i) {
            return NO_ANSWER;
        }
        switch (what) {
            case 0: return walker.thirdX;
            case 1: return walker.thirdY;
            case 2: return walker.thirdSide;
            default: return NO_ANSWER;
        }
    }

    public int search(int budget) {
        if (budget < 1 || budget > MOST_ROWS || board.winner() != 0) {
            return NONE;
        }
        bench.copyStones(board);
        return seeker.seek(mover, budget);
    }

    public int node(int i, int what) {
        return seeker.nodes.tell(i, what);
    }

    public int strategy(int i, int what) {
        if (!seeker.plan.has(i)) {
            return NO_ANSWER;
        }
        switch (what) {
            case 0: return seeker.plan.ahead[i];
            case 1: return seeker.plan.cells[i];
            default: return NO_ANSWER;
        }
    }

    public int load() {
        tree.copyEntries(seeker.plan);
        return tree.count;
    }

    public int plant(int ahead, int cell) {
        return ahead == NONE || tree.has(ahead) ? tree.add(ahead, cell) : NONE;
    }

    public boolean graft(int i, int cell) {
        if (!tree.has(i)) {
            return false;
        }
        tree.cells[i] = cell;
        return true;
    }

    public int prune(int n) {
        if (n < 0 || n > tree.count) {
            return NONE;
        }
        tree.count = n;
        return n;
    }

    public int check(int side) {
        if (!isSide(side) || board.winner() != 0) {
            return NONE;
        }
        bench.copyStones(board);
        return checker.judge(side, mover);
    }

    private static boolean isSide(int side) {
        return side == 1 || side == 2;
    }

    private static int otherSide(int side) {
        return 3 - side;
    }

    private static int roomierLength(int length) {
        return Math.max(FIRST_ROWS, Math.min(MOST_ROWS, 2 * length));
    }

    /** The stones, and what can be seen of them. */
    private static final class Board {
        private static final int AROUND = 6;
        private static final int[] AROUND_X = {-1, 1, 0, 0, 1, -1};
        private static final int[] AROUND_Y = {0, 0, -1, 1, -1, 1};
        /** A side's two edges, as marks; side 2's lie two bits higher in the row of edges. */
        private static final int FIRST_EDGE = 1;
        private static final int LAST_EDGE = 2;
        private static final int BOTH_EDGES = 3;

        private final int size;
        private final int[] stones;
        private final int[] near;
        private final int[] edges;
        private final int[] marks;
        private final int[] stack;

        Board(int size) {
            int count = size * size;
            this.size = size;
            stones = new int[count];
            near = new int[count * AROUND];
            edges = new int[count];
            marks = new int[count];
            stack = new int[count];
            for (int y = 0; y < size; y++) {
                for (int x = 0; x < size; x++) {
                    int place = size * y + x;
                    edges[place] = edgeMarks(y, size) | edgeMarks(x, size) << 2;
                    for (int k = 0; k < AROUND; k++) {
                        near[AROUND * place + k] = numberIn(size, x + AROUND_X[k], y + AROUND_Y[k]);
                    }
                }
            }
        }

        private static int edgeMarks(int line, int size) {
            return (line == 0 ? FIRST_EDGE : 0) | (line == size - 1 ? LAST_EDGE : 0);
        }

        private static int numberIn(int size, int x, int y) {
            return x < 0 || x >= size || y < 0 || y >= size ? NONE : size * y + x;
        }

        int numberOf(int x, int y) {
            return numberIn(size, x, y);
        }

        boolean has(int place) {
            return place >= 0 && place < stones.length;
        }

        boolean isEmpty(int place) {
            return place >= 0 && place < stones.length && stones[place] == 0;
        }

        int stoneAt(int place) {
            return has(place) ? stones[place] : 0;
        }

        void put(int place, int side) {
            if (has(place)) {
                stones[place] = side;
            }
        }

        void copyStones(Board from) {
            System.arraycopy(from.stones, 0, stones, 0, Math.min(from.stones.length, stones.length));
        }

        int countEmpty() {
            int count = 0;
            for (int stone : stones) {
                if (stone == 0) {
                    count++;
                }
            }
            return count;
        }

        /** The side of a cell of the board or around it; 0 where neither side has it. */
        int sideAt(int x, int y) {
            int place = numberOf(x, y);
            if (place != NONE) {
                return stones[place];
            }
            if (x < -1 || x > size || y < -1 || y > size) {
                return 0;
            }
            if (y == -1 || y == size) {
                return x == y ? 0 : 1;
            }
            return 2;
        }

        void clearMarks() {
            Arrays.fill(marks, 0);
        }

        /** Marks an EMPTY cell; false for what isn't one, or has its mark already. */
        boolean markEmpty(int place) {
            if (!isEmpty(place) || marks[place] != 0) {
                return false;
            }
            marks[place] = 1;
            return true;
        }

        /** Marks the whole chain of a cell, unless the cell has these marks already. */
        private void markChain(int from, int mark) {
            if ((marks[from] & mark) == mark) {
                return;
            }
            marks[from] |= mark;
            stack[0] = from;
            int open = 1;
            for (int n = 0; n < stack.length && open > 0; n++) {
                open--;
                open = openAround(stack[open], mark, open);
            }
        }

        /** A cell is marked as it is opened: so each is opened once, and the stack is long enough. */
        private int openAround(int place, int mark, int open) {
            int opened = open;
            for (int k = 0; k < AROUND; k++) {
                int next = near[AROUND * place + k];
                if (next != NONE && stones[next] == stones[place]
                        && (marks[next] & mark) != mark && opened < stack.length) {
                    marks[next] |= mark;
                    stack[opened] = next;
                    opened++;
                }
            }
            return opened;
        }

        int chainName(int place) {
            if (!has(place) || stones[place] == 0) {
                return NONE;
            }
            clearMarks();
            markChain(place, 1);
            for (int name = 0; name < place; name++) {
                if (marks[name] != 0) {
                    return name;
                }
            }
            return place;
        }

        int countChains() {
            int count = 0;
            clearMarks();
            for (int place = 0; place < stones.length; place++) {
                if (stones[place] != 0 && marks[place] == 0) {
                    markChain(place, 1);
                    count++;
                }
            }
            return count;
        }

        private int edgesOf(int side, int place) {
            return side == 1 ? edges[place] & BOTH_EDGES : edges[place] >> 2;
        }

        /** Every stone of a side gets the marks of the edges that its chain has come to. */
        void markFromEdges(int side) {
            clearMarks();
            for (int place = 0; place < stones.length; place++) {
                if (stones[place] == side) {
                    markChain(place, edgesOf(side, place));
                }
            }
        }

        boolean wins(int side) {
            markFromEdges(side);
            for (int mark : marks) {
                if (mark == BOTH_EDGES) {
                    return true;
                }
            }
            return false;
        }

        int winner() {
            if (wins(1)) {
                return 1;
            }
            return wins(2) ? 2 : 0;
        }

        /**
         * Whether a play of the side there would win. The marks must be those of markFromEdges for
         * that side: one marking serves all the plays at a node.
         */
        boolean wouldWin(int side, int place) {
            if (!has(place)) {
                return false;
            }
            int reached = edgesOf(side, place);
            for (int k = 0; k < AROUND; k++) {
                int next = near[AROUND * place + k];
                if (next != NONE) {
                    reached |= marks[next];
                }
            }
            return reached == BOTH_EDGES;
        }
    }

    /** Gale's walk between the cells of side 1 and those of side 2. */
    private static final class Walker {
        private final Board board;
        private int oneX;
        private int oneY;
        private int twoX;
        private int twoY;
        private int thirdX;
        private int thirdY;
        private int thirdSide;

        Walker(Board board) {
            this.board = board;
        }

        /** Walks to a step, or to the end if that comes first: the number of the step it stands at. */
        int follow(int wanted) {
            oneX = 0;
            oneY = -1;
            twoX = -1;
            twoY = 0;
            lookBeyond(-1, -1);
            int at = 0;
            while (at < wanted && thirdSide != 0) {
                goOn();
                at++;
            }
            return at;
        }

        private void goOn() {
            int leftX = thirdSide == 1 ? oneX : twoX;
            int leftY = thirdSide == 1 ? oneY : twoY;
            if (thirdSide == 1) {
                oneX = thirdX;
                oneY = thirdY;
            } else {
                twoX = thirdX;
                twoY = thirdY;
            }
            lookBeyond(leftX, leftY);
        }

        /**
         * The two corners that share a pair of cells make a parallelogram with the pair as its
         * diagonal: so their third cells have the same sum as the pair.
         */
        private void lookBeyond(int leftX, int leftY) {
            thirdX = oneX + twoX - leftX;
            thirdY = oneY + twoY - leftY;
            thirdSide = board.sideAt(thirdX, thirdY);
        }
    }

    /** Plays, each behind another one or behind the root: a strategy, or the checker's tree. */
    private static final class Entries {
        private int[] ahead = new int[FIRST_ROWS];
        private int[] cells = new int[FIRST_ROWS];
        private int count = 0;

        boolean has(int i) {
            return i >= 0 && i < count;
        }

        int add(int behind, int place) {
            if (count >= MOST_ROWS) {
                return NONE;
            }
            if (count >= ahead.length) {
                int length = roomierLength(ahead.length);
                ahead = Arrays.copyOf(ahead, length);
                cells = Arrays.copyOf(cells, length);
            }
            ahead[count] = behind;
            cells[count] = place;
            count++;
            return count - 1;
        }

        void copyEntries(Entries from) {
            count = 0;
            for (int i = 0; i < from.count; i++) {
                add(from.ahead[i], from.cells[i]);
            }
        }
    }

    /** The nodes of a search; the children of one have numbers without a gap. */
    private static final class Nodes {
        private int[] cells = new int[FIRST_ROWS];
        private int[] ahead = new int[FIRST_ROWS];
        private int[] proof = new int[FIRST_ROWS];
        private int[] disproof = new int[FIRST_ROWS];
        private int[] child = new int[FIRST_ROWS];
        private int[] children = new int[FIRST_ROWS];
        private int count = 0;

        int add(int behind, int place) {
            if (count >= MOST_ROWS) {
                return NONE;
            }
            if (count >= cells.length) {
                lengthen();
            }
            cells[count] = place;
            ahead[count] = behind;
            proof[count] = 1;
            disproof[count] = 1;
            child[count] = NONE;
            children[count] = 0;
            count++;
            return count - 1;
        }

        private void lengthen() {
            int length = roomierLength(cells.length);
            cells = Arrays.copyOf(cells, length);
            ahead = Arrays.copyOf(ahead, length);
            proof = Arrays.copyOf(proof, length);
            disproof = Arrays.copyOf(disproof, length);
            child = Arrays.copyOf(child, length);
            children = Arrays.copyOf(children, length);
        }

        int tell(int i, int what) {
            if (i < 0 || i >= count) {
                return NONE;
            }
            switch (what) {
                case 0: return cells[i];
                case 1: return ahead[i];
                case 2: return proof[i];
                case 3: return disproof[i];
                case 4: return child[i];
                case 5: return children[i];
                default: return NONE;
            }
        }

        /** The first child with the least number in a row; NONE without children. */
        int leastChild(int node, int[] numbers) {
            int least = child[node];
            for (int k = 1; k < children[node]; k++) {
                int next = child[node] + k;
                if (numbers[next] < numbers[least]) {
                    least = next;
                }
            }
            return least;
        }

        int sumOfChildren(int node, int[] numbers) {
            int sum = 0;
            for (int k = 0; k < children[node]; k++) {
                sum = Math.min(SURE, sum + numbers[child[node] + k]);
            }
            return sum;
        }

        int nextSibling(int node) {
            int parent = ahead[node];
            if (parent == NONE || node + 1 >= child[parent] + children[parent]) {
                return NONE;
            }
            return node + 1;
        }
    }

    /** The search by proof numbers, and the strategy that it finds. */
    private static final class Seeker {
        private final Board bench;
        private final Nodes nodes = new Nodes();
        private final Entries plan = new Entries();
        private int first = 1;
        private int mover = 1;

        Seeker(Board bench) {
            this.bench = bench;
        }

        int seek(int side, int budget) {
            first = side;
            mover = side;
            nodes.count = 0;
            plan.count = 0;
            int root = nodes.add(NONE, NONE);
            boolean goesOn = true;
            for (int n = 0; n < MOST_ROWS && goesOn && !isSettled(root); n++) {
                int leaf = descend(root);
                goesOn = expand(leaf, budget);
                climb(leaf);
            }
            int found = foundAt(root);
            if (found != 0) {
                writePlan(root, found);
            }
            return found;
        }

        private boolean isSettled(int node) {
            return nodes.proof[node] == 0 || nodes.disproof[node] == 0;
        }

        private int foundAt(int node) {
            if (nodes.proof[node] == 0) {
                return first;
            }
            return nodes.disproof[node] == 0 ? otherSide(first) : 0;
        }

        private int descend(int root) {
            int node = root;
            for (int depth = 0; depth < bench.stones.length && nodes.children[node] > 0; depth++) {
                node = nodes.leastChild(node, mover == first ? nodes.proof : nodes.disproof);
                bench.put(nodes.cells[node], mover);
                mover = otherSide(mover);
            }
            return node;
        }

        private boolean expand(int leaf, int budget) {
            int empty = bench.countEmpty();
            if (nodes.count + empty > budget) {
                return false;
            }
            bench.markFromEdges(mover);
            nodes.child[leaf] = empty > 0 ? nodes.count : NONE;
            nodes.children[leaf] = empty;
            for (int place = 0; place < bench.stones.length; place++) {
                if (bench.isEmpty(place)) {
                    addChild(leaf, place);
                }
            }
            return true;
        }

        private void addChild(int leaf, int place) {
            int made = nodes.add(leaf, place);
            if (made != NONE && bench.wouldWin(mover, place)) {
                nodes.proof[made] = mover == first ? 0 : SURE;
                nodes.disproof[made] = mover == first ? SURE : 0;
            }
        }

        /** Takes the stones of the way down back, reckoning as it goes. */
        private void climb(int leaf) {
            int node = leaf;
            reckon(node);
            for (int up = 0; up < bench.stones.length && nodes.ahead[node] != NONE; up++) {
                bench.put(nodes.cells[node], 0);
                mover = otherSide(mover);
                node = nodes.ahead[node];
                reckon(node);
            }
        }

        private void reckon(int node) {
            if (nodes.children[node] == 0) {
                return;
            }
            int[] leastOf = mover == first ? nodes.proof : nodes.disproof;
            int[] sumOf = mover == first ? nodes.disproof : nodes.proof;
            leastOf[node] = leastOf[nodes.leastChild(node, leastOf)];
            sumOf[node] = nodes.sumOfChildren(node, sumOf);
        }

        /** Node by node in place of a recursion: the way down can be 121 plays long. */
        private void writePlan(int root, int side) {
            int[] won = side == first ? nodes.proof : nodes.disproof;
            boolean own = side == first;
            int node = root;
            int entry = NONE;
            int next = firstInPlan(node, own, won);
            for (int n = 0; n < MOST_ROWS && next != NONE; n++) {
                entry = plan.add(entry, nodes.cells[next]);
                node = next;
                own = !own;
                next = firstInPlan(node, own, won);
                for (int up = 0; up < bench.stones.length && next == NONE && node != root; up++) {
                    own = !own;
                    next = own ? NONE : nodes.nextSibling(node);
                    node = nodes.ahead[node];
                    entry = plan.has(entry) ? plan.ahead[entry] : NONE;
                }
            }
        }

        /** The child with which the strategy goes on; a won node has none, for it has no children. */
        private int firstInPlan(int node, boolean own, int[] won) {
            return own ? nodes.leastChild(node, won) : nodes.child[node];
        }
    }

    /** Looks at a tree of plays as at a strategy that somebody brings. */
    private static final class Checker {
        private static final int BAD_PLAY = 1;
        private static final int PLAY_BEHIND_WIN = 2;
        private static final int NOT_ONE_PLAY = 3;
        private static final int NOT_EVERY_PLAY = 4;
        private static final int LOST = 5;
        private static final int PLACE_OF_ENTRY = 16;

        private final Board bench;
        private final Entries tree;
        /** The first entry behind each one, shifted by one: the root's is at 0. */
        private int[] behind = new int[FIRST_ROWS + 1];
        /** The next entry behind the same one. */
        private int[] nextOne = new int[FIRST_ROWS];
        private int side = 1;
        private int mover = 1;

        Checker(Board bench, Entries tree) {
            this.bench = bench;
            this.tree = tree;
        }

        int judge(int judged, int turn) {
            side = judged;
            mover = turn;
            linkEntries();
            int entry = NONE;
            int wrong = wrongBehind(entry);
            int next = behind[0];
            for (int n = 0; n < MOST_ROWS && wrong == 0 && next != NONE; n++) {
                entry = next;
                wrong = wrongAt(entry);
                if (wrong == 0) {
                    next = behind[entry + 1] != NONE ? behind[entry + 1] : climbToNext(entry);
                }
            }
            return wrong == 0 ? 0 : wrong + PLACE_OF_ENTRY * (entry + 1);
        }

        /** Takes plays back up to one that has a next one beside it: that next one, or NONE. */
        private int climbToNext(int entry) {
            int at = entry;
            int next = NONE;
            for (int up = 0; up < bench.stones.length && next == NONE && at != NONE; up++) {
                bench.put(tree.cells[at], 0);
                mover = otherSide(mover);
                next = nextOne[at];
                at = tree.ahead[at];
            }
            return next;
        }

        /** From the last entry on, so that those behind one come in the order of their numbers. */
        private void linkEntries() {
            if (nextOne.length < tree.count) {
                nextOne = new int[tree.ahead.length];
                behind = new int[tree.ahead.length + 1];
            }
            Arrays.fill(behind, NONE);
            for (int i = tree.count - 1; i >= 0; i--) {
                int parent = tree.ahead[i] + 1;
                nextOne[i] = behind[parent];
                behind[parent] = i;
            }
        }

        /** Plays an entry, if it can be played, and tells what is wrong with it. */
        private int wrongAt(int entry) {
            int place = tree.cells[entry];
            if (!bench.isEmpty(place)) {
                return BAD_PLAY;
            }
            int player = mover;
            bench.put(place, player);
            mover = otherSide(player);
            if (!bench.wins(player)) {
                return wrongBehind(entry);
            }
            if (player != side) {
                return LOST;
            }
            return behind[entry + 1] == NONE ? 0 : PLAY_BEHIND_WIN;
        }

        private int wrongBehind(int entry) {
            int next = behind[entry + 1];
            if (mover == side) {
                return next != NONE && nextOne[next] == NONE ? 0 : NOT_ONE_PLAY;
            }
            return coversEmptyCells(next) ? 0 : NOT_EVERY_PLAY;
        }

        private boolean coversEmptyCells(int firstEntry) {
            int covered = 0;
            int entry = firstEntry;
            bench.clearMarks();
            while (covered < MOST_ROWS && entry != NONE) {
                if (!bench.markEmpty(tree.cells[entry])) {
                    return false;
                }
                covered++;
                entry = nextOne[entry];
            }
            return covered == bench.countEmpty();
        }
    }
}
