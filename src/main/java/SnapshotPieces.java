/** A state passed on in pieces: a source, givers and a joiner, as DOC.md promises. */
public final class SnapshotPieces {
    public static final int BAD = -1, FULL = -2, NOT = -3;

    private static final int REFUSED = 0, TAKEN = 1, NOTHING = 2;
    private static final int HIGHEST = 200;
    private static final int FIRST_WHOLE = 4;
    private static final int MOST_ASKS = 300;

    private final Source source;
    private final Givers givers;
    private final Joiner joiner;
    private final Piece piece;
    // Kept, so that a look at an old height makes no new rows.
    private final Tree look;
    private int bytes;

    public SnapshotPieces() {
        source = new Source();
        givers = new Givers();
        joiner = new Joiner();
        piece = new Piece();
        look = new Tree();
        bytes = 0;
    }

    public int leaf(int path, long v) {
        if (!Tree.isPath(path)) {
            return BAD;
        }
        return source.append(path, v) ? source.top : FULL;
    }

    public long value(int height, int path) {
        return source.hasHeight(height) ? source.valueAt(height, path) : 0L;
    }

    public long digest(int height, int node) {
        if (!source.hasHeight(height) || !Tree.isNode(node)) {
            return 0L;
        }
        source.copyState(height, look);
        return look.digestOf(node);
    }

    public int giver(int kind, int head) {
        if (kind < Givers.HONEST || kind > Givers.LAZY || head < Givers.NO_HEAD || head > HIGHEST) {
            return BAD;
        }
        return givers.append(kind, head) ? givers.size - 1 : FULL;
    }

    public int faults(int giver) {
        return givers.has(giver) ? givers.faultsOf[giver] : BAD;
    }

    public int named(int k) {
        return k >= 0 && k < givers.namedSize ? givers.namedRow[k] : BAD;
    }

    public int target(int height) {
        if (!source.hasHeight(height)) {
            return BAD;
        }
        joiner.aim(height, source);
        return joiner.lackSize;
    }

    public int ask(int giver, int node, boolean whole) {
        if (!givers.has(giver) || !Tree.isNode(node) || (whole && node < FIRST_WHOLE)) {
            return BAD;
        }
        return joiner.lacks(node) ? exchange(giver, node, whole) : NOT;
    }

    public int play(long seed, int n) {
        if (n < 1 || n > MOST_ASKS) {
            return BAD;
        }
        if (!joiner.hasGoal()) {
            return NOT;
        }
        long x = seed;
        int taken = 0;
        for (int i = 0; i < n && givers.size > 0 && joiner.lackSize > 0; i++) {
            x = x * 6364136223846793005L + 1442695040888963407L;
            int h = (int) (x >>> 32) & 0x7FFFFFFF;
            int node = joiner.lackAt(h / 16 % joiner.lackSize);
            boolean whole = h / 4096 % 2 == 1 && node >= FIRST_WHOLE;
            if (exchange(h % givers.size, node, whole) == TAKEN) {
                taken++;
            }
        }
        return taken;
    }

    public int missing(int k) {
        return joiner.lackAt(k);
    }

    public int joined() {
        return joiner.isWhole() ? 1 : 0;
    }

    public long held(int path) {
        return joiner.own.valueOf(path);
    }

    public long mine(int node) {
        return joiner.own.digestOf(node);
    }

    public int rot(int path, long v) {
        if (!Tree.isPath(path)) {
            return BAD;
        }
        joiner.spoil(path, v);
        return joiner.lackSize;
    }

    public int cut() {
        if (!joiner.hasGoal()) {
            return NOT;
        }
        joiner.forgetBelowRoot();
        return joiner.lackSize;
    }

    public int count(int what) {
        switch (what) {
            case 0: return source.top;
            case 1: return givers.size;
            case 2: return joiner.hasGoal() ? joiner.goal : BAD;
            case 3: return joiner.lackSize;
            case 4: return bytes;
            case 5: return givers.allAsks;
            case 6: return givers.namedSize;
            case 7: return joiner.own.filledBelow(Tree.ROOT);
            case 8: return joiner.knownSize();
            default: return BAD;
        }
    }

    /** One ASK of a giver that there is for a node that is missing. */
    private int exchange(int giver, int node, boolean whole) {
        if (!givers.has(giver) || !givers.answers(giver, joiner.goal)) {
            return NOTHING;
        }
        int kind = givers.kindOf[giver];
        Tree state = kind == Givers.OLD ? joiner.before : joiner.now;
        if (whole || Tree.isLeaf(node)) {
            piece.fillLeaves(kind, state, node);
        } else {
            piece.fillPair(kind, state, node);
        }
        bytes += piece.bytes;
        if (joiner.judge(piece)) {
            joiner.take(piece);
            return TAKEN;
        }
        givers.blame(giver);
        return REFUSED;
    }

    /** The 64 values of a state, or of what is held, with the digests of all nodes. */
    private static final class Tree {
        static final int LEAVES = 64;
        static final int NODES = 128;
        static final int ROOT = 1;
        static final int NO_PATH = -1;
        private static final int LEVELS = 6;

        final long[] values = new long[LEAVES];
        private final long[] digests = new long[NODES];

        static boolean isPath(int path) {
            return path >= 0 && path < LEAVES;
        }

        static boolean isNode(int node) {
            return node >= ROOT && node < NODES;
        }

        static boolean isLeaf(int node) {
            return node >= LEAVES && node < NODES;
        }

        /** D of the document. D(0, 0) is 0, so a node above two empty ones needs no case of its own. */
        static long mix(long x, long y) {
            long z = x * 0x9E3779B97F4A7C15L + ((y << 23) | (y >>> 41));
            z ^= z >>> 29;
            z *= 0xBF58476D1CE4E5B9L;
            z ^= z >>> 32;
            return z;
        }

        static int firstPath(int node) {
            int n = node;
            for (int level = 0; level < LEVELS && n < LEAVES; level++) {
                n = 2 * n;
            }
            return n - LEAVES;
        }

        static int lastPath(int node) {
            int n = node;
            for (int level = 0; level < LEVELS && n < LEAVES; level++) {
                n = 2 * n + 1;
            }
            return n - LEAVES;
        }

        long valueOf(int path) {
            return isPath(path) ? values[path] : 0L;
        }

        long digestOf(int node) {
            return isNode(node) ? digests[node] : 0L;
        }

        void put(int path, long v) {
            if (isPath(path)) {
                values[path] = v;
                renew(LEAVES + path);
            }
        }

        void emptyBelow(int node) {
            if (!isNode(node)) {
                return;
            }
            int last = lastPath(node);
            for (int p = firstPath(node); p <= last; p++) {
                values[p] = 0L;
            }
            renew(node);
        }

        void copyBelow(int node, Tree from) {
            if (!isNode(node)) {
                return;
            }
            int last = lastPath(node);
            for (int p = firstPath(node); p <= last; p++) {
                values[p] = from.values[p];
            }
            renew(node);
        }

        int filledBelow(int node) {
            if (!isNode(node)) {
                return 0;
            }
            int filled = 0;
            int last = lastPath(node);
            for (int p = firstPath(node); p <= last; p++) {
                if (values[p] != 0L) {
                    filled++;
                }
            }
            return filled;
        }

        int firstFilled(int node) {
            if (!isNode(node)) {
                return NO_PATH;
            }
            int last = lastPath(node);
            for (int p = firstPath(node); p <= last; p++) {
                if (values[p] != 0L) {
                    return p;
                }
            }
            return NO_PATH;
        }

        int lastFilled(int node) {
            if (!isNode(node)) {
                return NO_PATH;
            }
            int first = firstPath(node);
            for (int p = lastPath(node); p >= first; p--) {
                if (values[p] != 0L) {
                    return p;
                }
            }
            return NO_PATH;
        }

        /** The digests below a node, its own, and those above it, behind a change of values below it. */
        void renew(int node) {
            if (!isNode(node)) {
                return;
            }
            int first = firstPath(node);
            int last = lastPath(node);
            for (int p = first; p <= last; p++) {
                digests[LEAVES + p] = values[p] == 0L ? 0L : mix(p + 1L, values[p]);
            }
            int low = LEAVES + first;
            int high = LEAVES + last;
            for (int level = 0; level < LEVELS; level++) {
                low = low / 2;
                high = high / 2;
                for (int n = low; n <= high; n++) {
                    digests[n] = mix(digests[2 * n], digests[2 * n + 1]);
                }
            }
        }
    }

    /** The row of states, kept as the one leaf that each height tells. */
    private static final class Source {
        private final int[] paths = new int[HIGHEST + 1];
        private final long[] told = new long[HIGHEST + 1];
        int top = 0;

        boolean hasHeight(int height) {
            return height >= 0 && height <= top;
        }

        boolean append(int path, long v) {
            if (top >= HIGHEST) {
                return false;
            }
            top++;
            paths[top] = path;
            told[top] = v;
            return true;
        }

        long valueAt(int height, int path) {
            for (int h = Math.min(height, top); h >= 1; h--) {
                if (paths[h] == path) {
                    return told[h];
                }
            }
            return 0L;
        }

        void copyState(int height, Tree into) {
            for (int p = 0; p < Tree.LEAVES; p++) {
                into.values[p] = 0L;
            }
            int last = Math.min(height, top);
            for (int h = 1; h <= last; h++) {
                int path = paths[h];
                if (Tree.isPath(path)) {
                    into.values[path] = told[h];
                }
            }
            // Once behind all heights: a renewal for each would be dear.
            into.renew(Tree.ROOT);
        }
    }

    /** The givers by number, what they were asked, and who was named. */
    private static final class Givers {
        static final int HONEST = 0, TURNED = 1, SHORT = 2, OLD = 3, LAZY = 4;
        static final int NO_HEAD = -1;
        private static final int MOST = 12;

        final int[] kindOf = new int[MOST];
        private final int[] headOf = new int[MOST];
        private final int[] asksOf = new int[MOST];
        final int[] faultsOf = new int[MOST];
        final int[] namedRow = new int[MOST];
        int size = 0;
        int namedSize = 0;
        int allAsks = 0;

        boolean has(int giver) {
            return giver >= 0 && giver < size;
        }

        boolean append(int kind, int head) {
            if (size >= MOST) {
                return false;
            }
            kindOf[size] = kind;
            headOf[size] = head;
            size++;
            return true;
        }

        /** Counts an ASK: whether anything comes. */
        boolean answers(int giver, int height) {
            if (!has(giver)) {
                return false;
            }
            asksOf[giver]++;
            allAsks++;
            boolean behind = headOf[giver] != NO_HEAD && headOf[giver] < height;
            boolean idle = kindOf[giver] == LAZY && asksOf[giver] % 2 == 0;
            return !behind && !idle;
        }

        void blame(int giver) {
            if (!has(giver)) {
                return;
            }
            // A giver's first fault is what gets it named, so no second row tells who was.
            if (faultsOf[giver] == 0 && namedSize < MOST) {
                namedRow[namedSize] = giver;
                namedSize++;
            }
            faultsOf[giver]++;
        }
    }

    /** What came of one ASK: two digests, or the values of the leaves below a node. */
    private static final class Piece {
        private static final int LEAF_BYTES = 8, PAIR_BYTES = 16, ROW_BYTES = 4, ROW_LEAF_BYTES = 12;

        // Only what lies below the piece's node counts here: the rest is left from earlier pieces.
        final Tree leaves = new Tree();
        int node = Tree.ROOT;
        boolean pair = false;
        long left = 0L;
        long right = 0L;
        int bytes = 0;

        void fillPair(int kind, Tree state, int ofNode) {
            node = ofNode;
            pair = true;
            long x = state.digestOf(2 * node);
            long y = state.digestOf(2 * node + 1);
            boolean swap = kind == Givers.SHORT;
            left = swap ? y : x;
            right = swap ? x : y;
            if (kind == Givers.TURNED) {
                left ^= 1L;
            }
            bytes = PAIR_BYTES;
        }

        /** A leaf alone is turned and shortened as a row of one leaf is; only its bytes differ. */
        void fillLeaves(int kind, Tree state, int ofNode) {
            node = ofNode;
            pair = false;
            leaves.copyBelow(node, state);
            if (kind == Givers.TURNED) {
                turnFirst();
            } else if (kind == Givers.SHORT) {
                leaves.put(leaves.lastFilled(node), 0L);
            }
            bytes = Tree.isLeaf(node) ? LEAF_BYTES : ROW_BYTES + ROW_LEAF_BYTES * leaves.filledBelow(node);
        }

        long ownDigest() {
            return pair ? Tree.mix(left, right) : leaves.digestOf(node);
        }

        private void turnFirst() {
            int filled = leaves.firstFilled(node);
            int path = filled == Tree.NO_PATH ? Tree.firstPath(node) : filled;
            leaves.put(path, leaves.valueOf(path) ^ 1L);
        }
    }

    /** What is held, what is known of the target, and what is missing by both. */
    private static final class Joiner {
        private static final int NO_GOAL = -1;

        final Tree own = new Tree();
        // Heights that there are never change, so both states last as long as the target does.
        final Tree now = new Tree();
        final Tree before = new Tree();
        private final boolean[] known = new boolean[Tree.NODES];
        private final long[] due = new long[Tree.NODES];
        private final int[] lackRow = new int[Tree.NODES];
        int lackSize = 0;
        int goal = NO_GOAL;

        boolean hasGoal() {
            return goal != NO_GOAL;
        }

        boolean isWhole() {
            return hasGoal() && due[Tree.ROOT] == own.digestOf(Tree.ROOT);
        }

        boolean lacks(int node) {
            if (!Tree.isNode(node) || !known[node] || due[node] == own.digestOf(node)) {
                return false;
            }
            // The two below a node get known together, and are forgotten together.
            return Tree.isLeaf(node) || !known[2 * node];
        }

        int lackAt(int k) {
            return k >= 0 && k < lackSize ? lackRow[k] : BAD;
        }

        int knownSize() {
            int size = 0;
            for (int n = Tree.ROOT; n < Tree.NODES; n++) {
                if (known[n]) {
                    size++;
                }
            }
            return size;
        }

        void aim(int height, Source source) {
            goal = height;
            source.copyState(height, now);
            source.copyState(Math.max(height - 1, 0), before);
            forget(Tree.ROOT);
            learn(Tree.ROOT, now.digestOf(Tree.ROOT));
            findLacks();
        }

        void forgetBelowRoot() {
            forget(Tree.ROOT + 1);
            findLacks();
        }

        void spoil(int path, long v) {
            own.put(path, v);
            findLacks();
        }

        boolean judge(Piece piece) {
            return Tree.isNode(piece.node) && due[piece.node] == piece.ownDigest();
        }

        void take(Piece piece) {
            if (piece.pair) {
                learn(2 * piece.node, piece.left);
                learn(2 * piece.node + 1, piece.right);
            } else {
                own.copyBelow(piece.node, piece.leaves);
            }
            findLacks();
        }

        private void forget(int from) {
            for (int n = from; n < Tree.NODES; n++) {
                known[n] = false;
            }
        }

        private void learn(int node, long digest) {
            if (!Tree.isNode(node)) {
                return;
            }
            known[node] = true;
            due[node] = digest;
            if (digest == 0L) {
                own.emptyBelow(node);
            }
        }

        /** Looks at every node: digests can meet by chance, so a node that fits may have one below that does not. */
        private void findLacks() {
            lackSize = 0;
            for (int n = Tree.ROOT; n < Tree.NODES; n++) {
                if (lacks(n)) {
                    lackRow[lackSize] = n;
                    lackSize++;
                }
            }
        }
    }
}
