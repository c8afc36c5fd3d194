/**
 * Which bit TURNED turns. What it gives is another thing than the STATE's, so it is REFUSED, whichever bit it was,
 * unless another DIGEST is KNOWN than the STATE's. The values here lead there: two neighbours whose DIGESTS are an
 * EDGE and the EDGE + SWAPS have the same one above them in either order, so SHORT can change their places, and then
 * OLD is right about what is below the left one. TURNED is right as well only if it turns just the bit that OLD has
 * otherwise. The numbers below were searched for until differences met; nothing else is special about them.
 */
public final class TurnedTest extends Bench {
    private static final long TURNED_VALUE = 4110910403667742546L;
    private static final long VALUE_EDGE = 1023098132333037315L;
    private static final long DIGEST_ABOVE_TURNED = Checks.d(0, Long.rotateRight(-2642584522812707696L, 23));
    private static final long DIGEST_EDGE = 3119072681305655808L;
    private static final long BESIDE_EMPTY = Long.rotateRight(8930131227450753518L, 23);
    private static final long EMPTY_EDGE = 2676572905154022714L;

    public static void main(String[] args) {
        for (int bit = 0; bit <= 1; bit++) {
            lowestBitOfALeaf(TURNED_VALUE ^ bit);
            lowestBitOfTheFirstInARow(TURNED_VALUE ^ bit);
            lowestBitOfTheFirstDigest(2 ^ bit);
        }
        leastLeafInARowWithoutLeaves();
        checks.end();
    }

    /** Lets a node have a digest by one leaf alone, the last below it. */
    private static void fill(SnapshotPieces s, int node, long digest) {
        int n = node;
        long d = digest;
        while (n < 64) {
            d = Checks.yFor(0, d);
            n = 2 * n + 1;
        }
        s.leaf(n - 64, Checks.valueOfDigest(n - 64, d));
    }

    /** Targets the last height, and lets the two below a node change their places. */
    private static void changePlaces(SnapshotPieces s, int node) {
        giveAllKinds(s);
        s.target(s.count(HEIGHT));
        open(s, node);
        due("the two below " + node + " change places", s.ask(SHORT, node, false), TAKEN);
        due("the left one's is not the STATE's now", s.ask(HONEST, 2 * node, false), REFUSED);
    }

    /** Leaf 0 has the value, and had its lowest bit otherwise at the height before, of which node 32's is known. */
    private static SnapshotPieces turnedValue(long value) {
        SnapshotPieces s = new SnapshotPieces();
        long beside = Checks.yFor(Checks.d(1, TURNED_VALUE ^ 1), VALUE_EDGE);
        fill(s, 65, beside);
        fill(s, 33, Checks.d(Checks.d(1, value ^ 1), beside));
        s.leaf(0, value ^ 1);
        s.leaf(0, value);
        changePlaces(s, 16);
        return s;
    }

    private static void lowestBitOfALeaf(long value) {
        SnapshotPieces s = turnedValue(value);
        due("of the VALUE of the LEAF: the two above", s.ask(OLD, 32, false), TAKEN);
        due("of the VALUE of the LEAF: just so", s.ask(HONEST, 64, false), REFUSED);
        due("of the VALUE of the LEAF: turned", s.ask(TURNED, 64, false), TAKEN);
        due("of the VALUE of the LEAF: held", s.held(0), value ^ 1);
    }

    private static void lowestBitOfTheFirstInARow(long value) {
        SnapshotPieces s = turnedValue(value);
        due("of the first VALUE of the row: just so", s.ask(HONEST, 32, true), REFUSED);
        due("of the first VALUE of the row: turned", s.ask(TURNED, 32, true), TAKEN);
        due("of the first VALUE of the row: held", s.held(0), value ^ 1);
        due("of the first VALUE of the row: the second", s.held(1), s.value(4, 1));
    }

    /** Leaf 0 has the digest, and had its lowest bit otherwise at the height before, of which node 16's is known. */
    private static void lowestBitOfTheFirstDigest(long digest) {
        SnapshotPieces s = new SnapshotPieces();
        long beside = Checks.yFor(2, DIGEST_ABOVE_TURNED);
        long besideBoth = Checks.yFor(DIGEST_ABOVE_TURNED, DIGEST_EDGE);
        fill(s, 65, beside);
        fill(s, 33, besideBoth);
        fill(s, 17, Checks.d(Checks.d(digest ^ 1, beside), besideBoth));
        fill(s, 64, digest ^ 1);
        fill(s, 64, digest);
        changePlaces(s, 8);
        due("of the first DIGEST: the two above", s.ask(OLD, 16, false), TAKEN);
        due("of the first DIGEST: just so", s.ask(HONEST, 32, false), REFUSED);
        due("of the first DIGEST: turned", s.ask(TURNED, 32, false), TAKEN);
        due("of the first DIGEST: the STATE's is not known", s.ask(HONEST, 64, false), REFUSED);
        due("of the first DIGEST: the one before is", s.ask(OLD, 64, false), TAKEN);
        due("of the first DIGEST: the second is the STATE's", s.ask(HONEST, 65, false), TAKEN);
    }

    /** Leaf 0 had 1 at the height before; now all below node 32 is empty. */
    private static void leastLeafInARowWithoutLeaves() {
        SnapshotPieces s = new SnapshotPieces();
        long before = Checks.d(above(0, 1, 0), BESIDE_EMPTY);
        fill(s, 33, BESIDE_EMPTY);
        fill(s, 17, Checks.yFor(before, EMPTY_EDGE));
        fill(s, 9, EMPTY_EDGE);
        s.leaf(0, 1);
        s.leaf(0, 0);
        changePlaces(s, 4);
        due("the least LEAF below: the two above 16", s.ask(OLD, 8, false), TAKEN);
        due("the least LEAF below: the two above 32", s.ask(OLD, 16, false), TAKEN);
        due("the least LEAF below: just so", s.ask(HONEST, 32, true), REFUSED);
        due("the least LEAF below: one LEAF", bytesOf(s, TURNED, 32, true), 4 + 12);
        due("the least LEAF below: no fault", s.faults(TURNED), 0);
        due("the least LEAF below: with VALUE 1", s.held(0), 1);
        due("the least LEAF below: no other", s.held(1), 0);
    }
}
