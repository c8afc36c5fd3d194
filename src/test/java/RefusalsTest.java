import java.util.function.Supplier;
import java.util.function.ToLongFunction;

/**
 * "What answers so changes nothing": of two objects that have come the same way one gets the call that is
 * answered BAD, FULL or NOT; then both have to look the same, and to go on in the same way.
 */
public final class RefusalsTest extends Bench {
    private final String where;
    private final Supplier<SnapshotPieces> way;

    private RefusalsTest(String where, Supplier<SnapshotPieces> way) {
        this.where = where;
        this.way = way;
    }

    public static void main(String[] args) {
        new RefusalsTest("new", SnapshotPieces::new).refusedWhenNew();
        new RefusalsTest("with givers", RefusalsTest::withGivers).refusedWithoutTarget();
        new RefusalsTest("halfway", RefusalsTest::halfway).refusedHalfway();
        new RefusalsTest("joined", RefusalsTest::allJoined).refusedWhenJoined();
        new RefusalsTest("full", RefusalsTest::full).refusedWhenFull();
        checks.end();
    }

    private static SnapshotPieces withGivers() {
        SnapshotPieces s = filled(3);
        giveAllKinds(s);
        s.rot(9, 9);
        return s;
    }

    /** Each kind was asked once, nodes 3, 4 and 5 are missing, and the lazy giver's next ask is an even one. */
    private static SnapshotPieces halfway() {
        SnapshotPieces s = filled(40);
        giveAllKinds(s);
        s.target(40);
        for (int kind = LAZY; kind >= TURNED; kind--) {
            s.ask(kind, kind == LAZY ? 1 : 3, false);
        }
        s.ask(HONEST, 2, false);
        s.rot(5, 9);
        return s;
    }

    private static SnapshotPieces allJoined() {
        SnapshotPieces s = filled(20);
        giveAllKinds(s);
        s.target(19);
        s.play(7, 300);
        return s;
    }

    private static SnapshotPieces full() {
        SnapshotPieces s = filledUp();
        for (int g = 0; g < 12; g++) {
            s.giver(g % 5, g < 6 ? -1 : 200);
        }
        s.target(200);
        s.play(7, 20);
        return s;
    }

    private void refusedWhenNew() {
        refusedNumbers();
        refused("ask(0, 1, false)", BAD, s -> s.ask(0, 1, false));
        refused("play(1, 5)", NOT, s -> s.play(1, 5));
        refused("cut()", NOT, SnapshotPieces::cut);
        refused("target(1)", BAD, s -> s.target(1));
        refused("faults(0)", BAD, s -> s.faults(0));
        refused("named(0)", BAD, s -> s.named(0));
        refused("missing(0)", BAD, s -> s.missing(0));
        refused("count(2)", BAD, s -> s.count(TARGET));
        refused("value(1, 0)", 0, s -> s.value(1, 0));
        refused("digest(1, 1)", 0, s -> s.digest(1, 1));
    }

    private void refusedWithoutTarget() {
        refusedNumbers();
        for (int giver = 0; giver < 5; giver++) {
            int g = giver;
            refused("ask(" + g + ", 1, false)", NOT, s -> s.ask(g, 1, false));
            refused("ask(" + g + ", 4, true)", NOT, s -> s.ask(g, 4, true));
            refused("ask(" + g + ", 1, true)", BAD, s -> s.ask(g, 1, true));
        }
        refused("ask(5, 1, false)", BAD, s -> s.ask(5, 1, false));
        refused("ask(0, 0, false)", BAD, s -> s.ask(0, 0, false));
        refused("ask(0, 128, true)", BAD, s -> s.ask(0, 128, true));
        refused("play(1, 300)", NOT, s -> s.play(1, 300));
        refused("cut()", NOT, SnapshotPieces::cut);
        refused("target(4)", BAD, s -> s.target(4));
    }

    private void refusedHalfway() {
        refusedNumbers();
        for (int giver = 0; giver < 5; giver++) {
            int g = giver;
            // Known below, not known at all, a leaf not known, and the wholes that there are not.
            for (int node : new int[] {1, 2, 6, 8, 64, 127}) {
                refused("ask(" + g + ", " + node + ", false)", NOT, s -> s.ask(g, node, false));
            }
            refused("ask(" + g + ", 8, true)", NOT, s -> s.ask(g, 8, true));
            for (int node : new int[] {1, 2, 3}) {
                refused("ask(" + g + ", " + node + ", true)", BAD, s -> s.ask(g, node, true));
            }
        }
        refused("ask(5, 3, false)", BAD, s -> s.ask(5, 3, false));
        refused("ask(-1, 3, false)", BAD, s -> s.ask(-1, 3, false));
        refused("target(41)", BAD, s -> s.target(41));
        refused("missing(3)", BAD, s -> s.missing(3));
        refused("named(3)", BAD, s -> s.named(3));
        refused("faults(5)", BAD, s -> s.faults(5));
        refused("value(41, 0)", 0, s -> s.value(41, 0));
        refused("digest(41, 1)", 0, s -> s.digest(41, 1));
    }

    private void refusedWhenJoined() {
        refusedNumbers();
        for (int node : new int[] {1, 2, 3, 4, 64, 127}) {
            refused("ask(0, " + node + ", false)", NOT, s -> s.ask(0, node, false));
            refused("ask(4, " + node + ", false)", NOT, s -> s.ask(4, node, false));
        }
        refused("play(9, 300)", 0, s -> s.play(9, 300));
        refused("target(21)", BAD, s -> s.target(21));
        refused("missing(0)", BAD, s -> s.missing(0));
    }

    private void refusedWhenFull() {
        refusedNumbers();
        refused("leaf(0, 1)", FULL, s -> s.leaf(0, 1));
        refused("leaf(63, 0)", FULL, s -> s.leaf(63, 0));
        refused("giver(0, -1)", FULL, s -> s.giver(0, -1));
        refused("giver(4, 200)", FULL, s -> s.giver(4, 200));
        refused("target(201)", BAD, s -> s.target(201));
        refused("faults(12)", BAD, s -> s.faults(12));
        refused("named(12)", BAD, s -> s.named(12));
        refused("ask(12, 1, false)", BAD, s -> s.ask(12, 1, false));
    }

    /** Numbers that are never as told, whatever came before. */
    private void refusedNumbers() {
        for (int path : new int[] {-1, 64, LOW, HIGH}) {
            refused("leaf(" + path + ", 1)", BAD, s -> s.leaf(path, 1));
            refused("rot(" + path + ", 1)", BAD, s -> s.rot(path, 1));
            refused("held(" + path + ")", 0, s -> s.held(path));
            refused("value(0, " + path + ")", 0, s -> s.value(0, path));
        }
        for (int node : new int[] {0, -1, 128, LOW, HIGH}) {
            refused("ask(0, " + node + ", false)", BAD, s -> s.ask(0, node, false));
            refused("ask(0, " + node + ", true)", BAD, s -> s.ask(0, node, true));
            refused("digest(0, " + node + ")", 0, s -> s.digest(0, node));
            refused("mine(" + node + ")", 0, s -> s.mine(node));
        }
        for (int k : new int[] {-1, 128, LOW, HIGH}) {
            refused("ask(" + k + ", 1, false)", BAD, s -> s.ask(k, 1, false));
            refused("faults(" + k + ")", BAD, s -> s.faults(k));
            refused("named(" + k + ")", BAD, s -> s.named(k));
            refused("missing(" + k + ")", BAD, s -> s.missing(k));
        }
        for (int height : new int[] {-1, 201, LOW, HIGH}) {
            refused("target(" + height + ")", BAD, s -> s.target(height));
            refused("value(" + height + ", 0)", 0, s -> s.value(height, 0));
            refused("digest(" + height + ", 1)", 0, s -> s.digest(height, 1));
        }
        for (int n : new int[] {0, -1, 301, LOW, HIGH}) {
            refused("play(1, " + n + ")", BAD, s -> s.play(1, n));
        }
        for (int kind : new int[] {-1, 5, LOW, HIGH}) {
            refused("giver(" + kind + ", 0)", BAD, s -> s.giver(kind, 0));
        }
        for (int head : new int[] {-2, 201, LOW, HIGH}) {
            refused("giver(0, " + head + ")", BAD, s -> s.giver(0, head));
        }
        for (int what : new int[] {-1, 9, LOW, HIGH}) {
            refused("count(" + what + ")", BAD, s -> s.count(what));
        }
    }

    private void refused(String name, long answer, ToLongFunction<SnapshotPieces> call) {
        SnapshotPieces refused = way.get();
        SnapshotPieces twin = way.get();
        String what = where + ", " + name;
        due(what, call.applyAsLong(refused), answer);
        compare(what + ", then ", refused, twin);
        goOn(what + ", then on: ", refused, twin);
    }

    /** Every answer that looks alone, within the 512 calls of an object. */
    private static void compare(String what, SnapshotPieces a, SnapshotPieces b) {
        for (int k = 0; k < 9; k++) {
            due(what + "count(" + k + ")", a.count(k), b.count(k));
        }
        for (int g = 0; g < 13; g++) {
            due(what + "faults(" + g + ")", a.faults(g), b.faults(g));
            due(what + "named(" + g + ")", a.named(g), b.named(g));
        }
        for (int k = 0; k < 12; k++) {
            due(what + "missing(" + k + ")", a.missing(k), b.missing(k));
        }
        for (int p = 0; p < 64; p++) {
            due(what + "held(" + p + ")", a.held(p), b.held(p));
        }
        for (int node = 1; node < 64; node++) {
            due(what + "mine(" + node + ")", a.mine(node), b.mine(node));
        }
        int top = b.count(HEIGHT);
        due(what + "digest(" + top + ", 1)", a.digest(top, 1), b.digest(top, 1));
        due(what + "joined()", a.joined(), b.joined());
    }

    private static void goOn(String what, SnapshotPieces a, SnapshotPieces b) {
        int node = b.missing(0);
        // Asked twice, so that a lazy giver's count of asks would show.
        for (int i = 0; i < 2; i++) {
            due(what + "the lazy giver", a.ask(LAZY, node, false), b.ask(LAZY, node, false));
        }
        due(what + "giver", a.giver(LAZY, -1), b.giver(LAZY, -1));
        due(what + "leaf", a.leaf(1, 1), b.leaf(1, 1));
        int top = b.count(HEIGHT);
        due(what + "the digest", a.digest(top, 1), b.digest(top, 1));
        due(what + "play", a.play(11, 40), b.play(11, 40));
        due(what + "target", a.target(top), b.target(top));
        due(what + "another play", a.play(12, 40), b.play(12, 40));
        for (int k = 0; k < 9; k++) {
            due(what + "count(" + k + ")", a.count(k), b.count(k));
        }
        due(what + "mine(1)", a.mine(1), b.mine(1));
    }
}
