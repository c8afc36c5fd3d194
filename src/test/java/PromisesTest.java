/** Each promise of the document by hand: ordinary inputs, the edges that it names, and wrong inputs. */
public final class PromisesTest extends Bench {
    public static void main(String[] args) {
        newObject();
        leaf();
        value();
        digest();
        giver();
        faultsAndNamed();
        target();
        targetOfEmptyState();
        askWrongly();
        askForPair();
        askForLeaf();
        askForWhole();
        askForEmptyRow();
        askOldGiver();
        askByHead();
        askLazyGiver();
        knowingZeroEmpties();
        leafOfDigestZero();
        play();
        playStepByStep();
        playByBits();
        playPicksTheNode();
        playPicksTheWhole();
        playGoesOnWithX();
        playWrongly();
        playEnds();
        missing();
        digestsThatMeet();
        heldAndMine();
        rot();
        cut();
        count();
        countAtTheBounds();
        checks.end();
    }

    private static void newObject() {
        SnapshotPieces s = new SnapshotPieces();
        int[] counts = {0, 0, BAD, 0, 0, 0, 0, 0, 0};
        for (int what = 0; what < counts.length; what++) {
            due("1: new, count(" + what + ")", s.count(what), counts[what]);
        }
        due("1: new, joined", s.joined(), 0);
        due("1: new, missing(0)", s.missing(0), BAD);
        due("1: new, named(0)", s.named(0), BAD);
        due("1: new, faults(0)", s.faults(0), BAD);
        for (int p = 0; p < 64; p++) {
            due("1: new, held(" + p + ")", s.held(p), 0);
            due("1: new, value(0, " + p + ")", s.value(0, p), 0);
        }
        due("1: new, mine(1)", s.mine(1), 0);
        SnapshotPieces other = filled(3);
        due("1: objects share nothing", s.count(HEIGHT) + other.count(HEIGHT), 3);
    }

    private static void leaf() {
        SnapshotPieces s = new SnapshotPieces();
        for (int bad : new int[] {-1, 64, Integer.MIN_VALUE, Integer.MAX_VALUE}) {
            due("2: leaf(" + bad + ")", s.leaf(bad, 1), BAD);
        }
        due("2: BAD adds no height", s.count(HEIGHT), 0);
        due("2: first leaf", s.leaf(0, 5), 1);
        due("2: the same value is a height too", s.leaf(0, 5), 2);
        due("2: an empty one too", s.leaf(63, 0), 3);
        for (int h = 4; h <= 200; h++) {
            due("2: leaf at " + h, s.leaf(h % 64, h), h);
        }
        due("2: behind 200", s.leaf(0, 1), FULL);
        due("2: BAD ahead of FULL", s.leaf(64, 1), BAD);
        due("2: FULL adds no height", s.count(HEIGHT), 200);
        due("2: FULL changes no value", s.value(200, 0), 192);
        due("2: the highest value", s.value(200, 8), 200);
    }

    private static void value() {
        SnapshotPieces s = new SnapshotPieces();
        s.leaf(3, 7);
        s.leaf(3, Long.MIN_VALUE);
        s.leaf(63, -1);
        s.leaf(3, 0);
        due("3: value(0, 3)", s.value(0, 3), 0);
        due("3: value(1, 3)", s.value(1, 3), 7);
        due("3: value(2, 3)", s.value(2, 3), Long.MIN_VALUE);
        due("3: value(3, 3) goes on", s.value(3, 3), Long.MIN_VALUE);
        due("3: value(4, 3)", s.value(4, 3), 0);
        due("3: value(4, 63)", s.value(4, 63), -1);
        due("3: value(2, 63)", s.value(2, 63), 0);
        due("3: no such height", s.value(5, 63), 0);
        due("3: no height -1", s.value(-1, 63), 0);
        due("3: no leaf 64", s.value(4, 64), 0);
        due("3: no leaf -1", s.value(4, -1), 0);
        due("3: far out", s.value(Integer.MAX_VALUE, Integer.MIN_VALUE), 0);
    }

    private static void digest() {
        SnapshotPieces s = new SnapshotPieces();
        s.leaf(0, 5);
        s.leaf(1, 6);
        s.leaf(0, 0);
        s.leaf(1, 0);
        due("4: a leaf", s.digest(1, 64), Checks.d(1, 5));
        due("4: an empty leaf", s.digest(1, 65), 0);
        due("4: above one", s.digest(1, 32), Checks.d(Checks.d(1, 5), 0));
        due("4: above two", s.digest(2, 32), above(0, 5, 6));
        due("4: above the right one", s.digest(3, 32), Checks.d(0, Checks.d(2, 6)));
        long up = above(0, 5, 6);
        for (int node = 16; node >= 1; node /= 2) {
            up = Checks.d(up, 0);
            due("4: node " + node, s.digest(2, node), up);
        }
        due("4: the root of what is empty again", s.digest(4, 1), 0);
        due("4: at height 0", s.digest(0, 1), 0);
        due("4: beside", s.digest(2, 3), 0);
        for (int bad : new int[] {0, -1, 128, Integer.MIN_VALUE, Integer.MAX_VALUE}) {
            due("4: no node " + bad, s.digest(2, bad), 0);
        }
        for (int bad : new int[] {5, -1, 201, Integer.MAX_VALUE}) {
            due("4: no height " + bad, s.digest(bad, 1), 0);
        }
        SnapshotPieces last = new SnapshotPieces();
        last.leaf(63, -9);
        due("4: node 127", last.digest(1, 127), Checks.d(64, -9));
        due("4: node 63", last.digest(1, 63), Checks.d(0, Checks.d(64, -9)));
    }

    private static void giver() {
        SnapshotPieces s = new SnapshotPieces();
        for (int bad : new int[] {-1, 5, Integer.MIN_VALUE, Integer.MAX_VALUE}) {
            due("5: kind " + bad, s.giver(bad, 0), BAD);
        }
        for (int bad : new int[] {-2, 201, Integer.MIN_VALUE, Integer.MAX_VALUE}) {
            due("5: head " + bad, s.giver(0, bad), BAD);
        }
        due("5: BAD adds none", s.count(GIVERS), 0);
        int[] heads = {-1, 0, 200, 7};
        for (int g = 0; g < 12; g++) {
            due("5: giver " + g, s.giver(g % 5, heads[g % 4]), g);
        }
        due("5: the thirteenth", s.giver(0, 0), FULL);
        due("5: BAD ahead of FULL", s.giver(9, 0), BAD);
        due("5: FULL adds none", s.count(GIVERS), 12);
    }

    private static void faultsAndNamed() {
        SnapshotPieces s = filled(20);
        s.giver(HONEST, -1);
        s.giver(TURNED, -1);
        s.giver(SHORT, -1);
        s.target(20);
        due("7: none named yet", s.named(0), BAD);
        due("6: short gives another", s.ask(2, 1, false), REFUSED);
        due("6: turned gives another", s.ask(1, 1, false), REFUSED);
        due("6: again", s.ask(2, 1, false), REFUSED);
        due("6: faults of 2", s.faults(2), 2);
        due("6: faults of 1", s.faults(1), 1);
        due("6: taken is no fault", s.ask(0, 1, false), TAKEN);
        due("6: faults of 0", s.faults(0), 0);
        due("7: first named", s.named(0), 2);
        due("7: then", s.named(1), 1);
        due("7: once each", s.named(2), BAD);
        due("7: how many", s.count(NAMED), 2);
        for (int bad : new int[] {-1, 3, 12, Integer.MIN_VALUE, Integer.MAX_VALUE}) {
            due("6: faults(" + bad + ")", s.faults(bad), BAD);
            due("7: named(" + bad + ")", s.named(bad), BAD);
        }
        s.target(19);
        due("6: a target forgives nothing", s.faults(2), 2);
        due("7: nor does it forget names", s.named(0), 2);
    }

    private static void target() {
        SnapshotPieces s = filled(3);
        for (int bad : new int[] {-1, 4, 200, Integer.MIN_VALUE, Integer.MAX_VALUE}) {
            due("8: target(" + bad + ")", s.target(bad), BAD);
        }
        due("8: BAD sets none", s.count(TARGET), BAD);
        due("8: target(3)", s.target(3), 1);
        due("8: only the root is known", s.count(KNOWN), 1);
        s.giver(HONEST, -1);
        due("8: joins", s.play(1, 300) > 0 ? 1 : 0, 1);
        due("8: joined", s.joined(), 1);
        due("8: more is known", s.count(KNOWN) > 1 ? 1 : 0, 1);
        due("8: the same again misses nothing", s.target(3), 0);
        due("8: all that was known is gone", s.count(KNOWN), 1);
        due("8: a lower one", s.target(2), 1);
        due("8: what is held stays", s.held(2), 12);
        due("8: BAD keeps the target", s.target(4), BAD);
        due("8: it stays", s.count(TARGET), 2);
        s.leaf(9, 9);
        due("8: a new height does not move it", s.count(TARGET), 2);
        due("8: but can be followed to", s.target(4), 1);
        s.ask(0, 1, false);
        s.leaf(9, 10);
        due("8: nor from the height that was the last", s.count(TARGET), 4);
        due("8: and what is known stays", s.count(KNOWN), 3);
        due("8: as does what comes", s.ask(0, s.missing(0), false), TAKEN);
    }

    private static void targetOfEmptyState() {
        SnapshotPieces s = filled(3);
        s.giver(HONEST, -1);
        s.target(3);
        s.play(1, 300);
        due("8: three held", s.count(FILLED), 3);
        due("8: to know 0 of node 1", s.target(0), 0);
        due("8: empties what is held", s.count(FILLED), 0);
        due("8: and is joined", s.joined(), 1);
        due("8: the root is known", s.count(KNOWN), 1);
        due("15: rot below a known 0", s.rot(5, 1), 1);
        due("16: a cut teaches nothing", s.cut(), 1);
        due("16: so the rot stays", s.held(5), 1);
        due("9: two digests of 0", s.ask(0, 1, false), TAKEN);
        due("9: empty again", s.held(5), 0);
        due("9: joined again", s.joined(), 1);
    }

    private static void askWrongly() {
        SnapshotPieces s = filled(20);
        due("9: no giver, no target", s.ask(0, 1, false), BAD);
        s.giver(HONEST, -1);
        due("9: no target", s.ask(0, 1, false), NOT);
        due("9: BAD ahead of NOT", s.ask(0, 0, false), BAD);
        s.target(20);
        for (int bad : new int[] {-1, 1, 12, Integer.MIN_VALUE, Integer.MAX_VALUE}) {
            due("9: giver " + bad, s.ask(bad, 1, false), BAD);
        }
        for (int bad : new int[] {0, -1, 128, Integer.MIN_VALUE, Integer.MAX_VALUE}) {
            due("9: node " + bad, s.ask(0, bad, false), BAD);
            due("9: whole " + bad, s.ask(0, bad, true), BAD);
        }
        for (int node = 1; node <= 3; node++) {
            due("9: a whole of " + node, s.ask(0, node, true), BAD);
        }
        due("9: not known", s.ask(0, 2, false), NOT);
        due("9: whole, not known", s.ask(0, 4, true), NOT);
        due("9: a leaf not known", s.ask(0, 64, false), NOT);
        due("9: none was counted", s.count(ASKS), 0);
        due("9: taken", s.ask(0, 1, false), TAKEN);
        due("9: known below", s.ask(0, 1, false), NOT);
        due("9: one was counted", s.count(ASKS), 1);
        due("9: its bytes", s.count(BYTES), 16);
    }

    private static void askForPair() {
        SnapshotPieces s = filled(64);
        giveAllKinds(s);
        s.target(64);
        due("9: turned pair", s.ask(TURNED, 1, false), REFUSED);
        due("9: short pair", s.ask(SHORT, 1, false), REFUSED);
        due("9: old pair", s.ask(OLD, 1, false), REFUSED);
        due("9: bytes of what is refused", s.count(BYTES), 48);
        due("9: nothing known by it", s.count(KNOWN), 1);
        due("9: lazy pair", s.ask(LAZY, 1, false), TAKEN);
        due("9: both known", s.count(KNOWN), 3);
        due("9: bytes", s.count(BYTES), 64);
        due("9: old is right where nothing changed", s.ask(OLD, 2, false), TAKEN);
        due("9: missing then", s.missing(0), 3);
        due("9: missing then", s.missing(1), 4);
        due("9: missing then", s.missing(2), 5);
        SnapshotPieces equal = new SnapshotPieces();
        equal.giver(SHORT, -1);
        equal.target(0);
        equal.rot(0, 3);
        due("9: two equal digests change places", equal.ask(0, 1, false), TAKEN);
    }

    /** Leaf 0 has 1, leaf 1 has 6, at height 2; known down to both leaves. */
    private static SnapshotPieces openedToLeaves() {
        SnapshotPieces s = new SnapshotPieces();
        s.leaf(0, 1);
        s.leaf(1, 6);
        giveAllKinds(s);
        s.target(2);
        for (int node = 1; node <= 32; node *= 2) {
            s.ask(HONEST, node, false);
        }
        return s;
    }

    private static void askForLeaf() {
        SnapshotPieces s = openedToLeaves();
        due("9: opened", s.count(BYTES), 96);
        due("9: turned to 0", s.ask(TURNED, 64, false), REFUSED);
        due("9: turned 6", s.ask(TURNED, 65, false), REFUSED);
        due("9: short leaf", s.ask(SHORT, 64, false), REFUSED);
        due("9: old leaf", s.ask(OLD, 65, false), REFUSED);
        due("9: refused is not held", s.count(FILLED), 0);
        due("9: old leaf of before", s.ask(OLD, 64, false), TAKEN);
        due("9: held", s.held(0), 1);
        due("9: bytes of five leaves", s.count(BYTES), 96 + 5 * 8);
        due("9: a leaf as a whole", s.ask(HONEST, 65, true), TAKEN);
        due("9: is a leaf still", s.count(BYTES), 96 + 6 * 8);
        due("9: held", s.held(1), 6);
        due("9: joined", s.joined(), 1);
        s.rot(2, 9);
        due("9: an empty node is missing", s.missing(0), 33);
        s.ask(HONEST, 33, false);
        due("9: its leaf was emptied by 0", s.held(2), 0);
        s.rot(2, 9);
        due("9: now its leaf", s.missing(0), 66);
        due("9: turned 0 is 1", s.ask(TURNED, 66, false), REFUSED);
        due("9: short gives 0, which is right", s.ask(SHORT, 66, false), TAKEN);
        due("9: held again", s.held(2), 0);
    }

    private static void askForWhole() {
        SnapshotPieces s = openedToFour(40);
        s.giver(TURNED, -1);
        s.giver(SHORT, -1);
        s.giver(OLD, -1);
        s.rot(20, 5);
        int before = s.count(BYTES);
        due("9: turned row", s.ask(1, 4, true), REFUSED);
        due("9: its bytes", s.count(BYTES) - before, 4 + 16 * 12);
        due("9: short row", s.ask(2, 4, true), REFUSED);
        due("9: its bytes", s.count(BYTES) - before, 2 * 4 + 31 * 12);
        due("9: whole", s.ask(0, 4, true), TAKEN);
        due("9: its bytes", s.count(BYTES) - before, 3 * 4 + 47 * 12);
        for (int p = 0; p < 16; p++) {
            due("9: held(" + p + ")", s.held(p), p + 10);
        }
        due("9: only below", s.held(16), 0);
        due("9: what lies beside stays", s.held(20), 5);
        due("9: a whole makes none known", s.count(KNOWN), 5);
        due("9: not missing now", s.ask(0, 4, true), NOT);
        SnapshotPieces part = openedToFour(3);
        part.giver(OLD, -1);
        part.rot(9, 9);
        int start = part.count(BYTES);
        due("9: old row", part.ask(1, 4, true), REFUSED);
        due("9: two leaves", part.count(BYTES) - start, 28);
        due("9: whole", part.ask(0, 4, true), TAKEN);
        due("9: what is not in the row is empty", part.held(9), 0);
        due("9: in it", part.held(2), 12);
        due("9: joined", part.joined(), 1);
        turnedToNothing();
    }

    private static void turnedToNothing() {
        SnapshotPieces s = new SnapshotPieces();
        s.leaf(3, 1);
        s.leaf(4, 8);
        s.giver(HONEST, -1);
        s.giver(TURNED, -1);
        s.target(2);
        s.ask(0, 1, false);
        s.ask(0, 2, false);
        int start = s.count(BYTES);
        due("9: first value turned to 0", s.ask(1, 4, true), REFUSED);
        due("9: it is not in the row", s.count(BYTES) - start, 16);
    }

    private static void askForEmptyRow() {
        SnapshotPieces s = openedToFour(3);
        for (int kind = TURNED; kind <= OLD; kind++) {
            s.giver(kind, -1);
        }
        s.ask(0, 4, true);
        due("9: rot below node 5", s.rot(17, 1), 1);
        due("9: which was known to be empty", s.missing(0), 5);
        int start = s.count(BYTES);
        due("9: turned row without leaves", s.ask(1, 5, true), REFUSED);
        due("9: has one", s.count(BYTES) - start, 16);
        due("9: short row without leaves", s.ask(2, 5, true), TAKEN);
        due("9: has none", s.count(BYTES) - start, 20);
        due("9: empty", s.held(17), 0);
        s.rot(16, 1);
        due("9: old row without leaves", s.ask(3, 5, true), TAKEN);
        due("9: joined", s.joined(), 1);
    }

    private static void askOldGiver() {
        SnapshotPieces s = new SnapshotPieces();
        s.giver(OLD, -1);
        s.leaf(0, 1);
        s.leaf(0, 1);
        s.target(0);
        s.rot(7, 7);
        due("9: old at 0 is as at 0", s.ask(0, 1, false), TAKEN);
        s.target(1);
        due("9: old at 1", s.ask(0, 1, false), REFUSED);
        s.target(2);
        due("9: old at 2, the same", s.ask(0, 1, false), TAKEN);
    }

    private static void askByHead() {
        SnapshotPieces s = filled(5);
        int[] heads = {4, 5, 200, -1, 0};
        for (int head : heads) {
            s.giver(HONEST, head);
        }
        int[] answers = {NOTHING, TAKEN, TAKEN, TAKEN, NOTHING};
        for (int g = 0; g < heads.length; g++) {
            s.target(5);
            due("9: head " + heads[g], s.ask(g, 1, false), answers[g]);
        }
        due("9: all were counted", s.count(ASKS), 5);
        due("9: nothing has no bytes", s.count(BYTES), 48);
        due("9: nothing is no fault", s.count(NAMED), 0);
        s.target(4);
        due("9: at its head", s.ask(0, 1, false), TAKEN);
    }

    private static void askLazyGiver() {
        SnapshotPieces s = filled(5);
        s.giver(LAZY, 4);
        s.giver(LAZY, -1);
        s.target(5);
        due("9: behind, its first", s.ask(0, 1, false), NOTHING);
        s.target(4);
        due("9: its second", s.ask(0, 1, false), NOTHING);
        due("9: not missing, not counted", s.ask(0, 9, false), NOT);
        due("9: its third", s.ask(0, 1, false), TAKEN);
        due("9: the other's first", s.ask(1, 2, false), TAKEN);
        due("9: the other's second", s.ask(1, 4, false), NOTHING);
        due("9: the other's third", s.ask(1, 4, true), TAKEN);
        due("9: asks of all", s.count(ASKS), 6);
        due("9: bytes", s.count(BYTES), 16 + 16 + 4 + 4 * 12);
    }

    private static void knowingZeroEmpties() {
        SnapshotPieces s = filled(3);
        s.giver(HONEST, -1);
        s.target(3);
        s.rot(40, 4);
        s.rot(20, 4);
        s.ask(0, 1, false);
        due("9: to know 0 of node 3 empties it", s.held(40), 0);
        due("9: not of node 2", s.held(20), 4);
        s.ask(0, 2, false);
        due("9: then of node 5", s.held(20), 0);
        due("9: known", s.count(KNOWN), 5);
        due("9: a known 0 that fits is not missing", s.count(LACKS), 1);
    }

    private static void leafOfDigestZero() {
        long odd = Checks.valueOfDigestZero(5);
        SnapshotPieces s = new SnapshotPieces();
        s.leaf(5, odd);
        s.leaf(4, 3);
        due("4: D can be 0", s.digest(1, 69), 0);
        due("3: it is a value all the same", s.value(1, 5), odd);
        s.giver(HONEST, -1);
        s.target(2);
        s.ask(0, 1, false);
        s.ask(0, 2, false);
        int start = s.count(BYTES);
        due("9: a row with it", s.ask(0, 4, true), TAKEN);
        due("9: of two leaves", s.count(BYTES) - start, 28);
        due("13: held", s.held(5), odd);
        due("14: mine", s.mine(69), 0);
        due("17: not empty", s.count(FILLED), 2);
        s.target(1);
        due("8: its root is 0 too, so all is empty", s.count(FILLED), 0);
    }

    private static void play() {
        SnapshotPieces s = filled(64);
        s.giver(HONEST, -1);
        s.target(64);
        int taken = s.play(12345, 300);
        due("10: one honest giver: all are taken", taken, s.count(ASKS));
        due("10: it ends when nothing is missing", s.joined(), 1);
        for (int p = 0; p < 64; p++) {
            due("10: held(" + p + ")", s.held(p), p + 10);
        }
        due("10: nothing is missing", s.play(1, 300), 0);
        SnapshotPieces some = filled(64);
        some.giver(HONEST, -1);
        some.target(64);
        due("10: so many asks", some.play(12345, 5), 5);
        due("10: no more", some.count(ASKS), 5);
        SnapshotPieces all = filled(64);
        all.giver(HONEST, 0);
        all.target(64);
        due("10: nothing comes", all.play(9, 300), 0);
        due("10: 300 asks", all.count(ASKS), 300);
    }

    /** Plays on one object and asks on another by the document's rule: both have to go the same way. */
    private static void playStepByStep() {
        for (long seed : new long[] {0, 1, 77, -1, Long.MIN_VALUE, Long.MAX_VALUE, 0x123456789ABCDEFL}) {
            SnapshotPieces played = filled(50);
            SnapshotPieces asked = filled(50);
            for (int g = 0; g < 7; g++) {
                played.giver(g % 5, g == 6 ? 3 : -1);
                asked.giver(g % 5, g == 6 ? 3 : -1);
            }
            played.target(50);
            asked.target(50);
            int taken = 0;
            long x = seed;
            for (int i = 0; i < 60 && asked.count(LACKS) > 0; i++) {
                x = x * 6364136223846793005L + 1442695040888963407L;
                long h = (x & Long.MAX_VALUE) >> 32;
                int node = asked.missing((int) (h / 16 % asked.count(LACKS)));
                taken += asked.ask((int) (h % 7), node, h / 4096 % 2 == 1 && node >= 4) == TAKEN ? 1 : 0;
            }
            due("10: seed " + seed, played.play(seed, 60), taken);
            for (int what = 0; what < 9; what++) {
                due("10: seed " + seed + ", count(" + what + ")", played.count(what), asked.count(what));
            }
            due("10: seed " + seed + ", mine(1)", played.mine(1), asked.mine(1));
        }
    }

    /** The first x has these high 32 bits; the low ones are set, so that they would show. */
    private static long seedOf(long high) {
        return Checks.seedFor((high << 32) | 0xFFFFFFFFL);
    }

    /** Of twelve givers one alone gives something: 1 is taken if h chose it. */
    private static void playByBits() {
        long[] highs = {0, 11, 12, 0x7FFFFFFF, 0x80000000L, 0x8000000BL, 0x80000001L, 0xFFFFFFFFL};
        int[] givers = {0, 11, 0, 7, 0, 11, 1, 7};
        for (int i = 0; i < highs.length; i++) {
            for (int honest = 0; honest < 12; honest++) {
                SnapshotPieces s = filled(1);
                for (int g = 0; g < 12; g++) {
                    s.giver(HONEST, g == honest ? -1 : 0);
                }
                s.target(1);
                String what = "10: the 31 bits behind the first: " + highs[i] + ", giver " + honest;
                due(what, s.play(seedOf(highs[i]), 1), honest == givers[i] ? 1 : 0);
            }
        }
    }

    private static void playPicksTheNode() {
        for (int k = 0; k < 64; k++) {
            SnapshotPieces s = filled(64);
            s.giver(HONEST, -1);
            s.target(64);
            for (int node = 1; node < 64; node++) {
                s.ask(0, node, false);
            }
            due("10: h / 16 mod how many: taken", s.play(seedOf(16 * (k + 64 * 3) + 15), 1), 1);
            due("10: h / 16 mod how many: " + k, s.held(k), k + 10);
            due("10: h / 16 mod how many: one", s.count(FILLED), 1);
        }
    }

    private static void playPicksTheWhole() {
        long[] highs = {4095, 4096, 8191, 8192, 12288, 0x7FFFFFFF, 0x80000000L, 0x80001000L};
        boolean[] wholes = {false, true, true, false, true, true, false, true};
        for (int i = 0; i < highs.length; i++) {
            SnapshotPieces s = filled(16);
            s.giver(HONEST, -1);
            s.target(16);
            due("10: not a whole of node 1", s.play(seedOf(highs[i]), 1), 1);
            due("10: two digests of node 1", s.count(BYTES), 16);
            due("10: not a whole of node 2", s.play(seedOf(highs[i]), 1), 1);
            due("10: two digests of node 2", s.count(BYTES), 32);
            due("10: node 4", s.play(seedOf(highs[i]), 1), 1);
            due("10: if h / 4096 is odd: " + highs[i], s.count(BYTES), 32 + (wholes[i] ? 4 + 16 * 12 : 16));
        }
        SnapshotPieces right = filled(64);
        right.giver(HONEST, -1);
        right.target(64);
        right.ask(0, 1, false);
        right.ask(0, 2, false);
        right.ask(0, 4, true);
        right.ask(0, 5, true);
        due("10: node 3", right.play(seedOf(4096), 1), 1);
        due("10: not a whole of node 3", right.count(KNOWN), 7);
    }

    /** x becomes another one ahead of each ask, also of one to which nothing came, and starts anew with a play. */
    private static void playGoesOnWithX() {
        long seed = 5;
        SnapshotPieces once = filled(64);
        SnapshotPieces twice = filled(64);
        for (SnapshotPieces s : new SnapshotPieces[] {once, twice}) {
            s.giver(HONEST, 0);
            s.giver(LAZY, -1);
            s.giver(TURNED, -1);
            s.giver(HONEST, -1);
            s.target(64);
        }
        int taken = once.play(seed, 200);
        long x = seed;
        int sum = 0;
        for (int i = 0; i < 200; i++) {
            sum += twice.play(x, 1);
            x = x * 6364136223846793005L + 1442695040888963407L;
        }
        due("10: one by one", sum, taken);
        for (int what = 0; what < 9; what++) {
            due("10: one by one, count(" + what + ")", twice.count(what), once.count(what));
        }
        due("10: one by one, mine(1)", twice.mine(1), once.mine(1));
    }

    private static void playEnds() {
        SnapshotPieces s = filled(64);
        s.target(64);
        due("10: as long as there are GIVERS", s.play(1, 300), 0);
        due("10: no asks without them", s.count(ASKS), 0);
        s.giver(HONEST, 63);
        due("10: 300 asks", s.play(1, 300), 0);
        due("10: 300 asks, counted", s.count(ASKS), 300);
        due("10: 1 ask", s.play(1, 1), 0);
        due("10: 1 ask, counted", s.count(ASKS), 301);
        s.giver(HONEST, -1);
        due("10: until nothing is missing", s.play(1, 300) > 0 ? 1 : 0, 1);
        due("10: joined", s.joined(), 1);
        int asks = s.count(ASKS);
        due("10: nothing is missing", s.play(1, 300), 0);
        due("10: so none is asked", s.count(ASKS), asks);
        s.rot(3, 3);
        due("10: one is missing", s.play(2, 1) + s.play(3, 300) > 0 ? 1 : 0, 1);
        due("10: joined again", s.joined(), 1);
    }

    private static void playWrongly() {
        SnapshotPieces s = filled(2);
        due("10: no target", s.play(1, 1), NOT);
        due("10: BAD ahead of NOT", s.play(1, 0), BAD);
        s.target(2);
        due("10: no givers", s.play(1, 300), 0);
        s.giver(HONEST, -1);
        for (int bad : new int[] {0, -1, 301, Integer.MIN_VALUE, Integer.MAX_VALUE}) {
            due("10: n " + bad, s.play(1, bad), BAD);
        }
        due("10: BAD asks none", s.count(ASKS), 0);
        due("10: one", s.play(1, 1), 1);
    }

    private static void missing() {
        SnapshotPieces s = openedToFour(64);
        int[] nodes = {3, 4, 5};
        for (int k = 0; k < 3; k++) {
            due("11: missing(" + k + ")", s.missing(k), nodes[k]);
        }
        for (int bad : new int[] {-1, 3, 127, Integer.MIN_VALUE, Integer.MAX_VALUE}) {
            due("11: missing(" + bad + ")", s.missing(bad), BAD);
        }
        s.ask(0, 4, false);
        int[] then = {3, 5, 8, 9};
        for (int k = 0; k < 4; k++) {
            due("11: by numbers, missing(" + k + ")", s.missing(k), then[k]);
        }
        SnapshotPieces deep = filled(64);
        deep.giver(HONEST, -1);
        deep.target(64);
        for (int node = 1; node < 64; node++) {
            due("11: opened " + node, deep.ask(0, node, false), TAKEN);
        }
        due("11: all leaves", deep.count(LACKS), 64);
        due("11: the first", deep.missing(0), 64);
        due("11: the last", deep.missing(63), 127);
        due("11: behind it", deep.missing(64), BAD);
        due("17: all are known", deep.count(KNOWN), 127);
        for (int node = 127; node >= 64; node--) {
            due("12: not yet joined", deep.joined(), 0);
            due("9: leaf node " + node, deep.ask(0, node, false), TAKEN);
        }
        due("12: joined", deep.joined(), 1);
        due("11: none", deep.missing(0), BAD);
    }

    /** Two rotten leaves whose digests give the same one above: that one fits, and they are missing. */
    private static void digestsThatMeet() {
        SnapshotPieces s = openedToLeaves();
        s.ask(HONEST, 64, false);
        s.ask(HONEST, 65, false);
        due("12: joined", s.joined(), 1);
        long v = 77;
        long w = Checks.yFor(2, Checks.yFor(Checks.d(1, v), above(0, 1, 6)));
        due("11: they meet", above(0, v, w), above(0, 1, 6));
        s.rot(0, v);
        due("12: one rotten leaf", s.joined(), 0);
        due("15: both are missing", s.rot(1, w), 2);
        due("11: the left one", s.missing(0), 64);
        due("11: the right one", s.missing(1), 65);
        due("12: but the root is that of the height", s.joined(), 1);
        due("9: it can be mended", s.ask(HONEST, 64, false), TAKEN);
        due("12: half of it", s.joined(), 0);
        due("9: and whole", s.ask(HONEST, 65, false), TAKEN);
        due("12: joined again", s.joined(), 1);
    }

    private static void heldAndMine() {
        SnapshotPieces s = new SnapshotPieces();
        s.rot(0, 5);
        s.rot(1, -6);
        s.rot(63, Long.MIN_VALUE);
        due("13: held(0)", s.held(0), 5);
        due("13: held(1)", s.held(1), -6);
        due("13: held(63)", s.held(63), Long.MIN_VALUE);
        due("13: held(2)", s.held(2), 0);
        due("14: mine(64)", s.mine(64), Checks.d(1, 5));
        due("14: mine(32)", s.mine(32), above(0, 5, -6));
        due("14: mine(127)", s.mine(127), Checks.d(64, Long.MIN_VALUE));
        due("14: mine(66)", s.mine(66), 0);
        due("14: mine(33)", s.mine(33), 0);
        due("14: mine(1)", s.mine(1), Checks.d(s.mine(2), s.mine(3)));
        for (int bad : new int[] {-1, 64, Integer.MIN_VALUE, Integer.MAX_VALUE}) {
            due("13: held(" + bad + ")", s.held(bad), 0);
        }
        for (int bad : new int[] {0, -1, 128, Integer.MIN_VALUE, Integer.MAX_VALUE}) {
            due("14: mine(" + bad + ")", s.mine(bad), 0);
        }
        s.leaf(0, 5);
        s.leaf(1, -6);
        s.leaf(63, Long.MIN_VALUE);
        due("14: as the source's", s.mine(1), s.digest(3, 1));
        due("8: held already", s.target(3), 0);
        due("12: joined without an ask", s.joined(), 1);
    }

    private static void rot() {
        SnapshotPieces s = filled(3);
        due("15: without a target", s.rot(1, 4), 0);
        due("15: it is held", s.held(1), 4);
        for (int bad : new int[] {-1, 64, Integer.MIN_VALUE, Integer.MAX_VALUE}) {
            due("15: rot(" + bad + ")", s.rot(bad, 1), BAD);
        }
        s.giver(HONEST, -1);
        s.target(3);
        s.play(3, 300);
        due("15: joined", s.joined(), 1);
        due("15: a leaf rots", s.rot(0, 99) > 0 ? 1 : 0, 1);
        due("15: not joined", s.joined(), 0);
        due("15: back again", s.rot(0, 10), 0);
        due("15: joined again", s.joined(), 1);
        due("15: the same value", s.rot(0, 10), 0);
        due("15: to empty", s.rot(0, 0) > 0 ? 1 : 0, 1);
        due("17: two are left", s.count(FILLED), 2);
        due("15: it is mended", s.play(4, 300) > 0 ? 1 : 0, 1);
        due("13: held", s.held(0), 10);
    }

    private static void cut() {
        SnapshotPieces s = openedToFour(20);
        s.ask(0, 4, true);
        due("16: known", s.count(KNOWN), 5);
        due("16: cut", s.cut(), 1);
        due("16: only the root is known", s.count(KNOWN), 1);
        due("16: and missing", s.missing(0), 1);
        due("16: what is held stays", s.count(FILLED), 16);
        due("16: the target stays", s.count(TARGET), 20);
        s.ask(0, 1, false);
        s.ask(0, 2, false);
        due("16: what is held need not come again", s.missing(0), 5);
        s.ask(0, 5, true);
        due("16: joined", s.joined(), 1);
        due("16: a cut then", s.cut(), 0);
        due("16: joined still", s.joined(), 1);
        due("16: without a target", filled(2).cut(), NOT);
    }

    private static void count() {
        SnapshotPieces s = openedToFour(20);
        s.giver(TURNED, -1);
        s.ask(1, 4, true);
        s.ask(0, 5, true);
        int[] counts = {20, 2, 20, 1, 32 + 4 + 16 * 12 + 4 + 4 * 12, 4, 1, 4, 5};
        for (int what = 0; what < counts.length; what++) {
            due("17: count(" + what + ")", s.count(what), counts[what]);
        }
        for (int bad : new int[] {-1, 9, Integer.MIN_VALUE, Integer.MAX_VALUE}) {
            due("17: count(" + bad + ")", s.count(bad), BAD);
        }
        s.target(0);
        due("17: the target 0 is one", s.count(TARGET), 0);
    }

    private static void countAtTheBounds() {
        SnapshotPieces s = filledUp();
        due("17: the height", s.count(HEIGHT), 200);
        for (int g = 0; g < 12; g++) {
            s.giver(g == 0 ? HONEST : TURNED, 200);
        }
        due("17: givers", s.count(GIVERS), 12);
        s.target(200);
        due("17: the target", s.count(TARGET), 200);
        for (int g = 1; g < 12; g++) {
            s.ask(g, 1, false);
        }
        due("17: named", s.count(NAMED), 11);
        for (int node = 1; node < 64; node++) {
            s.ask(0, node, false);
        }
        due("17: known", s.count(KNOWN), 127);
        due("17: missing", s.count(LACKS), 64);
        due("17: none is held yet", s.count(FILLED), 0);
        for (int node = 64; node < 128; node++) {
            s.ask(0, node, false);
        }
        due("17: held", s.count(FILLED), 64);
        due("17: none is missing", s.count(LACKS), 0);
        due("17: asks", s.count(ASKS), 11 + 63 + 64);
        due("17: bytes", s.count(BYTES), 11 * 16 + 63 * 16 + 64 * 8);
    }
}
