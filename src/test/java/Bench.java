/** What the tests by hand share: the document's words as numbers, and objects that have come some way. */
abstract class Bench {
    static final int HONEST = 0, TURNED = 1, SHORT = 2, OLD = 3, LAZY = 4;
    static final int REFUSED = 0, TAKEN = 1, NOTHING = 2;
    static final int BAD = -1, FULL = -2, NOT = -3;
    static final int HEIGHT = 0, GIVERS = 1, TARGET = 2, LACKS = 3, BYTES = 4, ASKS = 5, NAMED = 6, FILLED = 7,
        KNOWN = 8;
    static final int LOW = Integer.MIN_VALUE, HIGH = Integer.MAX_VALUE;

    static final Checks checks = new Checks();

    static void due(String what, long got, long want) {
        checks.due(what, got, want);
    }

    /** Digest of the node above two leaves that have these values. */
    static long above(int evenPath, long v, long w) {
        long x = v == 0 ? 0 : Checks.d(evenPath + 1, v);
        long y = w == 0 ? 0 : Checks.d(evenPath + 2, w);
        return x == 0 && y == 0 ? 0 : Checks.d(x, y);
    }

    /** A source whose leaf p has p + 10 for p of 0 .. n - 1, at height n. */
    static SnapshotPieces filled(int n) {
        SnapshotPieces s = new SnapshotPieces();
        for (int p = 0; p < n; p++) {
            s.leaf(p, p + 10);
        }
        return s;
    }

    /** A source at the height 200, its leaf p told last with 1000 + p at the heights 137 .. 200. */
    static SnapshotPieces filledUp() {
        SnapshotPieces s = new SnapshotPieces();
        for (int h = 1; h <= 200; h++) {
            s.leaf((h + 55) % 64, h < 137 ? h : 1000 + h - 137);
        }
        return s;
    }

    /** Known down to node 4 and its neighbours, by an honest giver 0, at the highest height. */
    static SnapshotPieces openedToFour(int n) {
        SnapshotPieces s = filled(n);
        s.giver(HONEST, -1);
        s.target(n);
        open(s, 4);
        return s;
    }

    /** A giver of each kind, with the kind's number, if there was none before. */
    static void giveAllKinds(SnapshotPieces s) {
        for (int kind = HONEST; kind <= LAZY; kind++) {
            s.giver(kind, -1);
        }
    }

    /** Asks giver 0 for the two digests of each node above this one, the root's first. */
    static void open(SnapshotPieces s, int node) {
        for (int up = 6; up >= 1; up--) {
            if (node >> up >= 1) {
                s.ask(0, node >> up, false);
            }
        }
    }

    /** As open, below a node that is known to be empty: a leaf below it rots ahead of each ask, and at the end. */
    static void openRotten(SnapshotPieces s, int node) {
        int leaf = node;
        while (leaf < 64) {
            leaf = 2 * leaf + 1;
        }
        for (int up = 6; up >= 1; up--) {
            s.rot(leaf - 64, 5);
            if (node >> up >= 1) {
                s.ask(0, node >> up, false);
            }
        }
        s.rot(leaf - 64, 5);
    }

    /** The bytes that one ask lets come. */
    static int bytesOf(SnapshotPieces s, int giver, int node, boolean whole) {
        int before = s.count(BYTES);
        s.ask(giver, node, whole);
        return s.count(BYTES) - before;
    }
}
