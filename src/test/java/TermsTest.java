/** "What it is" and "Terms" of the document: each sentence that names a bound has a test of its own. */
public final class TermsTest extends Bench {
    public static void main(String[] args) {
        theSource();
        theDigests();
        theJoiner();
        theGivers();
        whatTheKindsGive();
        whatIsJudged();
        theCalls();
        checks.end();
    }

    private static void theSource() {
        at200TheSourceEnds();
        leavesAre0To63();
        aValueIsALong();
        value0IsEmpty();
        atHeight0AllAreEmpty();
        oneLeafDiffers();
    }

    private static void theDigests() {
        nodesAre1To127();
        a64PlusPIsLeafP();
        belowANodeAreTwo();
        digestOfALeaf();
        digestOfAnotherNode();
        digest0WhereAllIsEmpty();
        digestOfWhatIsHeld();
        bitsRunOver();
    }

    private static void theJoiner() {
        noTargetAtFirst();
        heldIsEmptyAtFirst();
        node1IsKnownWithATarget();
        missingIfKnown();
        missingIfAnother();
        missingIfALeafOrNotKnownBelow();
        joinedNeedsATarget();
        joinedByNode1Alone();
        toKnow0Empties();
        toKnow0OfALeaf();
        toKnow0OfNode1();
        toKnow0IsOfThatMoment();
        toTargetForgets();
        toTargetKeepsWhatIsHeld();
    }

    private static void theGivers() {
        giversAre0To11();
        asksAre0AtFirst();
        anAskIsCounted();
        headBelowTheTarget();
        headMinus1();
        headAboveTheSource();
        lazyAtEvenAsks();
        lazyCountsItsOwnAsks();
        lazyCountsAsksOfNothing();
        wholeOfNodes4AndAbove();
        bytesOfALeaf();
        bytesOfTwoDigests();
        bytesOfARow();
        theStateAtTheTarget();
    }

    private static void whatTheKindsGive() {
        honestAndLazyJustSo();
        turnedLeaf();
        turnedDigests();
        turnedRow();
        turnedRowWithoutLeaves();
        turnedValueThatBecomes0();
        shortLeaf();
        shortDigests();
        shortDigestsThatAreEqual();
        shortRow();
        shortRowWithoutLeaves();
        oldLeaf();
        oldDigests();
        oldRow();
        oldAtHeight0();
        oldByItsHead();
    }

    private static void whatIsJudged() {
        judgedByWhatIsKnown();
        leafJudged();
        twoDigestsOf0();
        rowJudgedAlone();
        rowOfTheSameDigest();
        takenRowEmptiesTheRest();
        takenDigestsAreKnown();
        refusedChangesNothingHeld();
        refusedIsAFault();
        namedOnce();
        namedInTheirOrder();
        bytesOfWhatIsRefused();
        nothingHasNoBytes();
    }

    private static void theCalls() {
        a512thCall();
        laterCallsDoNotThrow();
    }

    // ---- the source

    private static void at200TheSourceEnds() {
        SnapshotPieces s = new SnapshotPieces();
        for (int h = 1; h <= 200; h++) {
            due("200 at most behind 0: the height " + h, s.leaf(h % 64, h), h);
        }
        due("200 at most behind 0: one more", s.leaf(1, 7), FULL);
        due("200 at most behind 0: once more", s.leaf(1, 7), FULL);
        due("200 at most behind 0: how high", s.count(HEIGHT), 200);
        due("200 at most behind 0: the last is there", s.value(200, 200 % 64), 200);
        due("200 at most behind 0: no 201", s.value(201, 200 % 64), 0);
        due("200 at most behind 0: it may be the target", s.target(200), 1);
        due("200 at most behind 0: 201 may not", s.target(201), BAD);
    }

    private static void leavesAre0To63() {
        SnapshotPieces s = new SnapshotPieces();
        due("LEAVES 0 .. 63: the first", s.leaf(0, 5), 1);
        due("LEAVES 0 .. 63: the last", s.leaf(63, 6), 2);
        due("LEAVES 0 .. 63: the first's value", s.value(2, 0), 5);
        due("LEAVES 0 .. 63: the last's value", s.value(2, 63), 6);
        for (int path : new int[] {-1, 64, LOW, HIGH}) {
            due("LEAVES 0 .. 63: leaf " + path, s.leaf(path, 1), BAD);
            due("LEAVES 0 .. 63: value of " + path, s.value(2, path), 0);
            due("LEAVES 0 .. 63: rot of " + path, s.rot(path, 1), BAD);
            due("LEAVES 0 .. 63: held " + path, s.held(path), 0);
        }
        due("LEAVES 0 .. 63: rot of the first", s.rot(0, 1), 0);
        due("LEAVES 0 .. 63: rot of the last", s.rot(63, 2), 0);
        due("LEAVES 0 .. 63: two are held", s.count(FILLED), 2);
    }

    private static void aValueIsALong() {
        SnapshotPieces s = new SnapshotPieces();
        s.giver(HONEST, -1);
        long[] values = {Long.MIN_VALUE, Long.MAX_VALUE, -1, 1, 1L << 32, -(1L << 32)};
        for (int p = 0; p < values.length; p++) {
            s.leaf(p, values[p]);
        }
        s.target(values.length);
        s.play(1, 300);
        for (int p = 0; p < values.length; p++) {
            due("a VALUE (a long): of leaf " + p, s.value(values.length, p), values[p]);
            due("a VALUE (a long): held " + p, s.held(p), values[p]);
        }
    }

    private static void value0IsEmpty() {
        SnapshotPieces s = filled(3);
        s.giver(HONEST, -1);
        due("0: it is EMPTY: told like another", s.leaf(1, 0), 4);
        due("0: it is EMPTY: its value", s.value(4, 1), 0);
        due("0: it is EMPTY: its digest", s.digest(4, 65), 0);
        s.target(4);
        open(s, 4);
        due("0: it is EMPTY: not in a row", bytesOf(s, 0, 4, true), 4 + 2 * 12);
        due("0: it is EMPTY: not counted", s.count(FILLED), 2);
        s.rot(0, 0);
        due("0: it is EMPTY: nor if it rots so", s.count(FILLED), 1);
    }

    private static void atHeight0AllAreEmpty() {
        SnapshotPieces s = filled(64);
        for (int p = 0; p < 64; p++) {
            due("At height 0 all are EMPTY: leaf " + p, s.value(0, p), 0);
        }
        for (int node = 1; node < 128; node++) {
            due("At height 0 all are EMPTY: node " + node, s.digest(0, node), 0);
        }
    }

    private static void oneLeafDiffers() {
        SnapshotPieces s = filledUp();
        for (int p = 0; p < 64; p++) {
            due("differs in one LEAF told: " + p + " at 200", s.value(200, p), 1000 + p);
            due("differs in one LEAF told: " + p + " at 199", s.value(199, p), p == 63 ? 136 : 1000 + p);
        }
        due("differs in one LEAF told: 0 at 137", s.value(137, 0), 1000);
        due("differs in one LEAF told: 0 at 136", s.value(136, 0), 73);
        due("differs in one LEAF told: 0 at 9", s.value(9, 0), 9);
        due("differs in one LEAF told: 0 at 8", s.value(8, 0), 0);
        SnapshotPieces same = filled(1);
        same.leaf(0, 10);
        due("differs in one LEAF told: also the same", same.digest(2, 1), same.digest(1, 1));
    }

    // ---- digests

    private static void nodesAre1To127() {
        SnapshotPieces s = filled(64);
        s.giver(HONEST, -1);
        s.rot(0, 1);
        s.rot(63, 1);
        for (int node : new int[] {1, 127}) {
            due("NODES are 1 .. 127: digest " + node, s.digest(64, node) != 0 ? 1 : 0, 1);
            due("NODES are 1 .. 127: mine " + node, s.mine(node) != 0 ? 1 : 0, 1);
        }
        s.target(64);
        for (int node : new int[] {0, -1, 128, LOW, HIGH}) {
            due("NODES are 1 .. 127: digest " + node, s.digest(64, node), 0);
            due("NODES are 1 .. 127: mine " + node, s.mine(node), 0);
            due("NODES are 1 .. 127: ask " + node, s.ask(0, node, false), BAD);
        }
        due("NODES are 1 .. 127: ask 127", s.ask(0, 127, false), NOT);
        due("NODES are 1 .. 127: ask 1", s.ask(0, 1, false), TAKEN);
        open(s, 127);
        due("NODES are 1 .. 127: 127 when it is missing", s.ask(0, 127, false), TAKEN);
    }

    private static void a64PlusPIsLeafP() {
        for (int p : new int[] {0, 1, 31, 32, 62, 63}) {
            SnapshotPieces s = new SnapshotPieces();
            s.leaf(p, 9);
            s.giver(HONEST, -1);
            s.target(1);
            open(s, 64 + p);
            due("64 + p is LEAF p: missing, p " + p, s.missing(0), 64 + p);
            due("64 + p is LEAF p: taken, p " + p, s.ask(0, 64 + p, false), TAKEN);
            due("64 + p is LEAF p: held, p " + p, s.held(p), 9);
            due("64 + p is LEAF p: its digest, p " + p, s.mine(64 + p), Checks.d(p + 1, 9));
        }
    }

    private static void belowANodeAreTwo() {
        SnapshotPieces s = filled(64);
        for (int node = 1; node <= 63; node++) {
            long want = Checks.d(s.digest(64, 2 * node), s.digest(64, 2 * node + 1));
            due("below a NODE n up to 63 are 2 n and 2 n + 1: " + node, s.digest(64, node), want);
        }
    }

    private static void digestOfALeaf() {
        int[] paths = {0, 0, 63, 63, 63, 0, 5, 5};
        long[] values = {1, -1, 1, -1, Long.MIN_VALUE, Long.MAX_VALUE, 1L << 41, 1L << 40};
        // Reckoned apart from this code, in whole numbers without a bound, cut to 64 bits.
        long[] digests = {1401222722042674122L, -8549839230720091229L, 3397265298470141060L, 5297079479672581825L,
            3473104584992722038L, -5903755897931063187L, -4861113537220518906L, -8624802817673828551L};
        SnapshotPieces s = new SnapshotPieces();
        for (int i = 0; i < paths.length; i++) {
            s.leaf(paths[i], values[i]);
            s.rot(paths[i], values[i]);
            due("D(p + 1, v): p " + paths[i] + ", v " + values[i], s.digest(i + 1, 64 + paths[i]), digests[i]);
            due("D(p + 1, v): held, p " + paths[i] + ", v " + values[i], s.mine(64 + paths[i]), digests[i]);
        }
    }

    private static void digestOfAnotherNode() {
        SnapshotPieces s = new SnapshotPieces();
        s.leaf(0, 1);
        s.leaf(1, -1);
        s.leaf(0, 0);
        due("D(x, y): y is 0", s.digest(1, 32), 3231071874508790183L);
        due("D(x, y): both", s.digest(2, 32), 8321165558393845316L);
        due("D(x, y): x is 0", s.digest(3, 32), -937078042529426041L);
    }

    private static void digest0WhereAllIsEmpty() {
        SnapshotPieces s = new SnapshotPieces();
        s.leaf(63, 4);
        s.leaf(63, 0);
        for (int node = 1; node < 128; node++) {
            boolean over = node == 127 || node == 63 || node == 31 || node == 15 || node == 7 || node == 3 || node == 1;
            due("0 where all is EMPTY: node " + node + " at 1", s.digest(1, node) == 0 ? 0 : 1, over ? 1 : 0);
            due("0 where all is EMPTY: node " + node + " at 2", s.digest(2, node), 0);
        }
        due("0 where all is EMPTY: of a new object's held", s.mine(1), 0);
        s.rot(63, 4);
        due("0 where all is EMPTY: of what is held", s.mine(2), 0);
        due("0 where all is EMPTY: but not above one", s.mine(3), s.digest(1, 3));
        s.rot(63, 0);
        due("0 where all is EMPTY: empty again", s.mine(1), 0);
    }

    private static void digestOfWhatIsHeld() {
        SnapshotPieces s = filled(64);
        for (int p = 0; p < 64; p++) {
            s.rot(p, p + 10);
        }
        for (int node = 1; node < 128; node++) {
            due("DIGESTS of a STATE or of what is HELD: node " + node, s.mine(node), s.digest(64, node));
        }
    }

    private static void bitsRunOver() {
        long[] halves = {0, 1, -1, Long.MIN_VALUE, Long.MAX_VALUE, 0x00000000FFFFFFFFL, 0xFFFFFFFF00000000L};
        for (long x : halves) {
            for (long y : halves) {
                SnapshotPieces s = new SnapshotPieces();
                s.leaf(0, Checks.valueOfDigest(0, x));
                s.leaf(1, Checks.valueOfDigest(1, y));
                due("64 bits, running over: the left one " + x, s.digest(2, 64), x);
                due("64 bits, running over: the right one " + y, s.digest(2, 65), y);
                due("64 bits, running over: D(" + x + ", " + y + ")", s.digest(2, 32), byHalves(x, y));
            }
        }
    }

    /** D over java.math, which never runs over: only the last step cuts. */
    private static long byHalves(long x, long y) {
        java.math.BigInteger two64 = java.math.BigInteger.ONE.shiftLeft(64);
        java.math.BigInteger bigX = new java.math.BigInteger(Long.toUnsignedString(x));
        java.math.BigInteger bigY = new java.math.BigInteger(Long.toUnsignedString(y));
        java.math.BigInteger turned = bigY.shiftLeft(23).mod(two64).add(bigY.shiftRight(41));
        java.math.BigInteger z = bigX.multiply(new java.math.BigInteger("9E3779B97F4A7C15", 16)).add(turned).mod(two64);
        z = z.xor(z.shiftRight(29));
        z = z.multiply(new java.math.BigInteger("BF58476D1CE4E5B9", 16)).mod(two64);
        return z.xor(z.shiftRight(32)).longValue();
    }

    // ---- the joiner

    private static void noTargetAtFirst() {
        SnapshotPieces s = filled(2);
        s.giver(HONEST, -1);
        due("a TARGET, none at first: count", s.count(TARGET), BAD);
        due("a TARGET, none at first: ask", s.ask(0, 1, false), NOT);
        due("a TARGET, none at first: play", s.play(1, 1), NOT);
        due("a TARGET, none at first: cut", s.cut(), NOT);
        due("a TARGET, none at first: nothing is known", s.count(KNOWN), 0);
        due("a TARGET, none at first: nothing is missing", s.count(LACKS), 0);
        due("a TARGET, none at first: so rot answers", s.rot(0, 1), 0);
        due("a TARGET, none at first: nor the first missing", s.missing(0), BAD);
    }

    private static void heldIsEmptyAtFirst() {
        SnapshotPieces s = filled(64);
        s.target(64);
        for (int p = 0; p < 64; p++) {
            due("HELD, all EMPTY at first: " + p, s.held(p), 0);
        }
        for (int node = 1; node < 128; node++) {
            due("HELD, all EMPTY at first: mine " + node, s.mine(node), 0);
        }
        due("HELD, all EMPTY at first: count", s.count(FILLED), 0);
    }

    private static void node1IsKnownWithATarget() {
        SnapshotPieces s = filled(2);
        due("NODE 1's with a TARGET: none before", s.count(KNOWN), 0);
        s.target(1);
        due("NODE 1's with a TARGET: one", s.count(KNOWN), 1);
        due("NODE 1's with a TARGET: it is missing", s.missing(0), 1);
        s.target(0);
        due("NODE 1's with a TARGET: also that of 0", s.count(KNOWN), 1);
    }

    private static void missingIfKnown() {
        SnapshotPieces s = filled(64);
        s.giver(HONEST, -1);
        s.target(64);
        for (int node = 2; node < 128; node++) {
            due("MISSING if its DIGEST is KNOWN: not " + node, s.ask(0, node, false), NOT);
        }
        due("MISSING if its DIGEST is KNOWN: 1", s.missing(0), 1);
        due("MISSING if its DIGEST is KNOWN: 1 alone", s.missing(1), BAD);
    }

    private static void missingIfAnother() {
        SnapshotPieces s = openedToFour(64);
        s.ask(0, 4, true);
        due("that of what is HELD is another one: 4 is held", s.ask(0, 4, false), NOT);
        due("that of what is HELD is another one: 3 is first", s.missing(0), 3);
        due("that of what is HELD is another one: then 5", s.missing(1), 5);
        due("that of what is HELD is another one: rot", s.rot(15, 3), 3);
        due("that of what is HELD is another one: 4 again", s.missing(1), 4);
        due("that of what is HELD is another one: back", s.rot(15, 25), 2);
    }

    private static void missingIfALeafOrNotKnownBelow() {
        SnapshotPieces s = filled(2);
        s.giver(HONEST, -1);
        s.target(2);
        for (int node = 1; node <= 32; node *= 2) {
            due("it is a LEAF or those below are not KNOWN: " + node, s.missing(0), node);
            due("it is a LEAF or those below are not KNOWN: one", s.count(LACKS), 1);
            s.ask(0, node, false);
            due("it is a LEAF or those below are not KNOWN: no more " + node, s.ask(0, node, false), NOT);
        }
        due("it is a LEAF or those below are not KNOWN: leaves", s.count(LACKS), 2);
        due("it is a LEAF or those below are not KNOWN: leaf 0", s.missing(0), 64);
        due("it is a LEAF or those below are not KNOWN: leaf 1", s.missing(1), 65);
    }

    private static void joinedNeedsATarget() {
        SnapshotPieces s = new SnapshotPieces();
        due("JOINED: there is a TARGET: not yet", s.joined(), 0);
        s.target(0);
        due("JOINED: there is a TARGET: of what is empty", s.joined(), 1);
        s.rot(0, 1);
        due("JOINED: there is a TARGET: not with rot", s.joined(), 0);
        SnapshotPieces had = filled(1);
        had.rot(0, 10);
        due("JOINED: there is a TARGET: not by what is held alone", had.joined(), 0);
        had.target(1);
        due("JOINED: there is a TARGET: now", had.joined(), 1);
        had.target(0);
        had.rot(0, 10);
        due("JOINED: there is a TARGET: another height's", had.joined(), 0);
    }

    /** The two leaves' digests have changed places, and node 1 has the same one: other values, and JOINED. */
    private static void joinedByNode1Alone() {
        SnapshotPieces s = new SnapshotPieces();
        s.leaf(1, Checks.valueOfDigest(1, Checks.SWAPS));
        due("NODE 1's DIGEST is that of what is HELD: none", s.target(1), 1);
        due("NODE 1's DIGEST is that of what is HELD: rot", s.rot(0, Checks.valueOfDigest(0, Checks.SWAPS)), 0);
        due("NODE 1's DIGEST is that of what is HELD: joined", s.joined(), 1);
        due("NODE 1's DIGEST is that of what is HELD: by others", s.held(1), 0);
        due("NODE 1's DIGEST is that of what is HELD: more rot", s.rot(1, 1), 1);
        due("NODE 1's DIGEST is that of what is HELD: no more", s.joined(), 0);
    }

    private static void toKnow0Empties() {
        SnapshotPieces s = filled(3);
        s.giver(HONEST, -1);
        s.target(3);
        for (int p = 3; p < 64; p++) {
            s.rot(p, 4);
        }
        s.ask(0, 1, false);
        due("TO KNOW 0 of a NODE: 3", s.count(FILLED), 29);
        due("TO KNOW 0 of a NODE: the first below 3", s.held(32), 0);
        due("TO KNOW 0 of a NODE: the last below 3", s.held(63), 0);
        due("TO KNOW 0 of a NODE: the one ahead stays", s.held(31), 4);
        due("TO KNOW 0 of a NODE: it is not missing", s.count(LACKS), 1);
        s.ask(0, 2, false);
        due("TO KNOW 0 of a NODE: 5", s.count(FILLED), 13);
        due("TO KNOW 0 of a NODE: mine", s.mine(5), 0);
        due("TO KNOW 0 of a NODE: all above too", s.mine(2), Checks.d(s.mine(4), 0));
    }

    private static void toKnow0OfALeaf() {
        for (int p = 0; p < 2; p++) {
            SnapshotPieces s = new SnapshotPieces();
            s.leaf(p, 7);
            s.giver(HONEST, -1);
            s.target(1);
            s.rot(0, 5);
            s.rot(1, 5);
            open(s, 64);
            due("TO KNOW 0 (or itself): leaf " + (1 - p), s.held(1 - p), 0);
            due("TO KNOW 0 (or itself): its neighbour stays", s.held(p), 5);
            due("TO KNOW 0 (or itself): one is missing", s.count(LACKS), 1);
            due("TO KNOW 0 (or itself): which", s.missing(0), 64 + p);
        }
    }

    private static void toKnow0OfNode1() {
        SnapshotPieces s = filled(2);
        s.leaf(0, 0);
        s.leaf(1, 0);
        s.rot(0, 5);
        s.rot(63, 5);
        due("TO KNOW 0 of NODE 1: target", s.target(4), 0);
        due("TO KNOW 0 of NODE 1: held", s.count(FILLED), 0);
        due("TO KNOW 0 of NODE 1: joined", s.joined(), 1);
    }

    private static void toKnow0IsOfThatMoment() {
        SnapshotPieces s = openedToFour(3);
        due("is EMPTY then: rot later", s.rot(16, 5), 2);
        due("is EMPTY then: it stays", s.held(16), 5);
        due("is EMPTY then: its node is missing", s.missing(1), 5);
        s.ask(0, 4, true);
        due("is EMPTY then: not by another piece", s.held(16), 5);
        due("is EMPTY then: not joined", s.joined(), 0);
        due("is EMPTY then: mended by an ask", s.ask(0, 5, false), TAKEN);
        due("is EMPTY then: empty", s.held(16), 0);
    }

    private static void toTargetForgets() {
        SnapshotPieces s = openedToFour(20);
        due("all that was KNOWN is gone: before", s.count(KNOWN), 5);
        due("all that was KNOWN is gone: the same height", s.target(20), 1);
        due("all that was KNOWN is gone: one", s.count(KNOWN), 1);
        due("all that was KNOWN is gone: node 1", s.missing(0), 1);
        s.ask(0, 1, false);
        due("all that was KNOWN is gone: not below 2", s.missing(0), 2);
        s.target(19);
        s.play(4, 300);
        due("NODE 1's DIGEST at that height is KNOWN", s.mine(1), s.digest(19, 1));
        due("NODE 1's DIGEST at that height is KNOWN: joined", s.joined(), 1);
    }

    private static void toTargetKeepsWhatIsHeld() {
        SnapshotPieces s = openedToFour(20);
        s.ask(0, 4, true);
        s.rot(50, 3);
        for (int height : new int[] {19, 1, 20}) {
            s.target(height);
            due("What is HELD stays: how many", s.count(FILLED), 17);
            due("What is HELD stays: a piece", s.held(15), 25);
            due("What is HELD stays: rot", s.held(50), 3);
        }
    }

    // ---- givers

    private static void giversAre0To11() {
        SnapshotPieces s = new SnapshotPieces();
        for (int g = 0; g < 12; g++) {
            due("GIVERS 0 .. 11: not yet " + g, s.faults(g), BAD);
            due("GIVERS 0 .. 11: " + g, s.giver(g % 5, g * 18), g);
            due("GIVERS 0 .. 11: now " + g, s.faults(g), 0);
        }
        due("GIVERS 0 .. 11: no 12", s.giver(0, 0), FULL);
        due("GIVERS 0 .. 11: nor its faults", s.faults(12), BAD);
        due("GIVERS 0 .. 11: nor -1", s.faults(-1), BAD);
        due("GIVERS 0 .. 11: how many", s.count(GIVERS), 12);
    }

    private static void asksAre0AtFirst() {
        SnapshotPieces s = filled(2);
        s.giver(HONEST, -1);
        due("ASKS (0)", s.count(ASKS), 0);
        s.target(2);
        due("ASKS (0): a target asks none", s.count(ASKS), 0);
    }

    private static void anAskIsCounted() {
        SnapshotPieces s = filled(40);
        s.giver(HONEST, -1);
        s.giver(TURNED, -1);
        s.giver(HONEST, 0);
        s.target(40);
        s.ask(1, 1, false);
        due("an ASK is counted: refused", s.count(ASKS), 1);
        s.ask(2, 1, false);
        due("an ASK is counted: nothing came", s.count(ASKS), 2);
        s.ask(0, 1, false);
        due("an ASK is counted: taken", s.count(ASKS), 3);
        s.ask(0, 1, false);
        s.ask(0, 0, false);
        s.ask(3, 2, false);
        s.ask(0, 2, true);
        due("an ASK is counted: of a NODE that is MISSING", s.count(ASKS), 3);
        s.play(3, 2);
        due("an ASK is counted: of a play", s.count(ASKS), 5);
    }

    private static void headBelowTheTarget() {
        SnapshotPieces s = filled(5);
        for (int head = 0; head <= 5; head++) {
            s.giver(HONEST, head);
        }
        for (int height = 1; height <= 5; height++) {
            for (int head = 0; head <= 5; head++) {
                s.target(height);
                String what = "its HEAD is below the TARGET: head " + head + ", target " + height;
                due(what, s.ask(head, 1, false), head < height ? NOTHING : TAKEN);
            }
        }
        s.target(0);
        s.rot(0, 1);
        due("its HEAD is below the TARGET: both 0", s.ask(0, 1, false), TAKEN);
    }

    private static void headMinus1() {
        SnapshotPieces s = filledUp();
        s.giver(HONEST, -1);
        s.giver(HONEST, 199);
        s.giver(HONEST, 200);
        s.target(200);
        due("-1: as far as THE SOURCE goes: 199 does not", s.ask(1, 1, false), NOTHING);
        due("-1: as far as THE SOURCE goes: -1 does", s.ask(0, 1, false), TAKEN);
        due("-1: as far as THE SOURCE goes: 200 does", s.ask(2, 2, false), TAKEN);
        SnapshotPieces later = filled(1);
        later.giver(HONEST, -1);
        later.leaf(9, 9);
        later.target(2);
        due("-1: as far as THE SOURCE goes: later heights too", later.ask(0, 1, false), TAKEN);
    }

    private static void headAboveTheSource() {
        SnapshotPieces s = filled(1);
        due("a HEAD, a height: also one to come", s.giver(HONEST, 2), 0);
        s.target(1);
        due("a HEAD, a height: it gives what there is", s.ask(0, 1, false), TAKEN);
        s.leaf(1, 1);
        s.target(2);
        due("a HEAD, a height: and when it has come", s.ask(0, 1, false), TAKEN);
        s.leaf(2, 1);
        s.target(3);
        due("a HEAD, a height: no further", s.ask(0, 1, false), NOTHING);
    }

    private static void lazyAtEvenAsks() {
        SnapshotPieces s = filled(5);
        s.giver(LAZY, -1);
        for (int i = 1; i <= 8; i++) {
            s.target(5);
            due("an even one of its ASKS: " + i, s.ask(0, 1, false), i % 2 == 0 ? NOTHING : TAKEN);
        }
        due("an even one of its ASKS: no fault", s.faults(0), 0);
    }

    private static void lazyCountsItsOwnAsks() {
        SnapshotPieces s = filled(5);
        s.giver(LAZY, -1);
        s.giver(LAZY, -1);
        s.giver(HONEST, -1);
        int[] givers = {0, 2, 1, 1, 2, 0, 2, 0, 1};
        int[] answers = {TAKEN, TAKEN, TAKEN, NOTHING, TAKEN, NOTHING, TAKEN, TAKEN, TAKEN};
        for (int i = 0; i < givers.length; i++) {
            s.target(5);
            due("of its ASKS, not of all: " + i, s.ask(givers[i], 1, false), answers[i]);
        }
    }

    private static void lazyCountsAsksOfNothing() {
        SnapshotPieces s = filled(5);
        s.giver(LAZY, 4);
        s.target(5);
        due("NOTHING comes, and an ASK is counted: behind", s.ask(0, 1, false), NOTHING);
        s.target(4);
        due("NOTHING comes, and an ASK is counted: even", s.ask(0, 1, false), NOTHING);
        due("NOTHING comes, and an ASK is counted: NOT is none", s.ask(0, 2, false), NOT);
        due("NOTHING comes, and an ASK is counted: BAD is none", s.ask(0, 1, true), BAD);
        due("NOTHING comes, and an ASK is counted: odd", s.ask(0, 1, false), TAKEN);
    }

    private static void wholeOfNodes4AndAbove() {
        SnapshotPieces s = filled(64);
        s.giver(HONEST, -1);
        s.target(64);
        due("NODES 4 and above alone: 1", s.ask(0, 1, true), BAD);
        s.ask(0, 1, false);
        due("NODES 4 and above alone: 2", s.ask(0, 2, true), BAD);
        due("NODES 4 and above alone: 3", s.ask(0, 3, true), BAD);
        s.ask(0, 2, false);
        s.ask(0, 3, false);
        for (int node = 4; node <= 7; node++) {
            due("NODES 4 and above alone: " + node, s.ask(0, node, true), TAKEN);
        }
        due("NODES 4 and above alone: joined", s.joined(), 1);
    }

    private static void bytesOfALeaf() {
        SnapshotPieces s = filled(2);
        s.giver(HONEST, -1);
        s.target(2);
        open(s, 64);
        due("of a LEAF its VALUE (8 BYTES)", bytesOf(s, 0, 64, false), 8);
        due("of a LEAF its VALUE (8 BYTES): as a whole", bytesOf(s, 0, 65, true), 8);
        s.rot(0, 3);
        due("of a LEAF its VALUE (8 BYTES): again", bytesOf(s, 0, 64, true), 8);
        openRotten(s, 66);
        due("of a LEAF its VALUE (8 BYTES): of an empty one", bytesOf(s, 0, 66, false), 8);
        due("of a LEAF its VALUE (8 BYTES): joined", s.joined(), 1);
    }

    private static void bytesOfTwoDigests() {
        SnapshotPieces s = filled(64);
        s.giver(HONEST, -1);
        s.target(64);
        for (int node = 1; node <= 63; node++) {
            due("the two DIGESTS (16 BYTES): " + node, bytesOf(s, 0, node, false), 16);
        }
        due("the two DIGESTS (16 BYTES): all are known", s.count(KNOWN), 127);
    }

    private static void bytesOfARow() {
        for (int node = 4; node <= 63; node++) {
            SnapshotPieces s = filled(64);
            s.giver(HONEST, -1);
            s.target(64);
            open(s, node);
            int leaves = node < 8 ? 16 : node < 16 ? 8 : node < 32 ? 4 : 2;
            due("4 BYTES, and 12 for each: " + node, bytesOf(s, 0, node, true), 4 + 12 * leaves);
            due("those LEAVES below it: " + node, s.count(FILLED), leaves);
            due("those LEAVES below it: as the state's, " + node, s.mine(node), s.digest(64, node));
        }
        SnapshotPieces none = openedToFour(3);
        none.rot(20, 1);
        due("4 BYTES, and 12 for each: of none", bytesOf(none, 0, 5, true), 4);
        due("that are not EMPTY: three of sixteen", bytesOf(none, 0, 4, true), 4 + 3 * 12);
    }

    private static void theStateAtTheTarget() {
        SnapshotPieces s = filled(3);
        s.giver(HONEST, -1);
        s.leaf(0, 99);
        s.target(3);
        s.leaf(1, 98);
        open(s, 4);
        s.ask(0, 4, true);
        due("of the STATE at the TARGET: not of later ones", s.held(0), 10);
        due("of the STATE at the TARGET: nor of what came since", s.held(1), 11);
        due("of the STATE at the TARGET: joined", s.joined(), 1);
    }

    // ---- kinds

    /** Leaf 0 has v, leaf 1 has w, at height 2; a giver of each kind; known down to both leaves. */
    private static SnapshotPieces openedToLeaves(long v, long w) {
        SnapshotPieces s = new SnapshotPieces();
        s.leaf(0, v);
        s.leaf(1, w);
        giveAllKinds(s);
        s.target(2);
        open(s, 64);
        return s;
    }

    private static void honestAndLazyJustSo() {
        for (int kind : new int[] {HONEST, LAZY}) {
            SnapshotPieces s = openedToLeaves(6, 7);
            due("just so: a LEAF, kind " + kind, s.ask(kind, 64, false), TAKEN);
            due("just so: held, kind " + kind, s.held(0), 6);
            SnapshotPieces pair = openedToFour(20);
            pair.giver(kind, -1);
            due("just so: two DIGESTS, kind " + kind, pair.ask(1, 4, false), TAKEN);
            due("just so: known, kind " + kind, pair.count(KNOWN), 7);
            SnapshotPieces row = openedToFour(20);
            row.giver(kind, -1);
            due("just so: a row, kind " + kind, row.ask(1, 5, true), TAKEN);
            due("just so: held of the row, kind " + kind, row.count(FILLED), 4);
        }
    }

    private static void turnedLeaf() {
        for (long v : new long[] {1, 2, 3, -1, Long.MIN_VALUE, Long.MAX_VALUE}) {
            SnapshotPieces s = openedToLeaves(v, 0);
            due("TURNED: the VALUE of the LEAF " + v, s.ask(TURNED, 64, false), REFUSED);
            due("TURNED: it is not held", s.held(0), 0);
        }
        SnapshotPieces empty = openedToLeaves(2, 0);
        empty.rot(1, 5);
        due("TURNED: the VALUE of an EMPTY LEAF is 1", empty.ask(TURNED, 65, false), REFUSED);
        due("TURNED: rot stays", empty.held(1), 5);
    }

    private static void turnedDigests() {
        SnapshotPieces s = filled(2);
        giveAllKinds(s);
        s.target(2);
        for (int node = 1; node <= 32; node *= 2) {
            due("TURNED: of the first DIGEST, node " + node, s.ask(TURNED, node, false), REFUSED);
            s.ask(HONEST, node, false);
        }
        SnapshotPieces none = new SnapshotPieces();
        giveAllKinds(none);
        none.target(0);
        none.rot(0, 1);
        due("TURNED: of the first DIGEST that is 0", none.ask(TURNED, 1, false), REFUSED);
        due("TURNED: nothing is known by it", none.count(KNOWN), 1);
    }

    private static void turnedRow() {
        for (long v : new long[] {2, 3, -1, Long.MIN_VALUE, Long.MIN_VALUE + 1}) {
            SnapshotPieces s = openedToLeaves(v, 8);
            s.target(2);
            open(s, 4);
            due("TURNED: the first VALUE of the row " + v, s.ask(TURNED, 4, true), REFUSED);
            due("TURNED: as many as there are", bytesOf(s, TURNED, 4, true), 4 + 2 * 12);
        }
        SnapshotPieces last = openedToLeaves(2, 1);
        last.target(2);
        open(last, 4);
        due("TURNED: the first alone, not the 1 behind it", bytesOf(last, TURNED, 4, true), 4 + 2 * 12);
        turnedRowOfOneLeaf();
    }

    private static void turnedRowOfOneLeaf() {
        for (int p : new int[] {0, 7, 15}) {
            SnapshotPieces s = new SnapshotPieces();
            s.leaf(p, 6);
            giveAllKinds(s);
            s.target(1);
            open(s, 4);
            due("TURNED: the one LEAF of a row, " + p, bytesOf(s, TURNED, 4, true), 16);
            due("SHORT: the one LEAF of a row, " + p, bytesOf(s, SHORT, 4, true), 4);
            due("OLD: the one LEAF of a row, " + p, bytesOf(s, OLD, 4, true), 4);
            due("HONEST: the one LEAF of a row, " + p, bytesOf(s, HONEST, 4, true), 16);
        }
    }

    private static void turnedRowWithoutLeaves() {
        for (int node : new int[] {5, 10, 21, 43}) {
            SnapshotPieces s = new SnapshotPieces();
            s.leaf(0, 3);
            giveAllKinds(s);
            s.target(1);
            openRotten(s, node);
            due("a row without LEAVES: " + node + " is missing", s.ask(TURNED, node, true) != NOT ? 1 : 0, 1);
            due("a row without LEAVES gets one: " + node, bytesOf(s, TURNED, node, true), 16);
            due("a row without LEAVES: refused, so a fault", s.faults(TURNED), 2);
        }
    }

    private static void turnedValueThatBecomes0() {
        SnapshotPieces s = openedToLeaves(1, 8);
        s.target(2);
        open(s, 4);
        due("a VALUE that becomes 0 so: not in the row", bytesOf(s, TURNED, 4, true), 4 + 12);
        due("a VALUE that becomes 0 so: refused", s.faults(TURNED), 1);
        SnapshotPieces alone = openedToLeaves(0, 1);
        alone.target(2);
        open(alone, 4);
        due("a VALUE that becomes 0 so: none is left", bytesOf(alone, TURNED, 4, true), 4);
        due("a VALUE that becomes 0 so: refused too", alone.faults(TURNED), 1);
        due("a VALUE that becomes 0 so: honest", bytesOf(alone, HONEST, 4, true), 16);
    }

    private static void shortLeaf() {
        SnapshotPieces s = openedToLeaves(4, 0);
        due("SHORT: the VALUE 0", s.ask(SHORT, 64, false), REFUSED);
        s.rot(1, 7);
        due("SHORT: the VALUE 0 of an EMPTY LEAF", s.ask(SHORT, 65, false), TAKEN);
        due("SHORT: the VALUE 0 is held", s.held(1), 0);
        long odd = Checks.valueOfDigestZero(0);
        SnapshotPieces zero = openedToLeaves(odd, 9);
        zero.rot(0, 7);
        due("SHORT: the VALUE 0 where the DIGEST is 0", zero.ask(SHORT, 64, false), TAKEN);
        due("SHORT: the VALUE 0 is held there", zero.held(0), 0);
        zero.rot(0, 7);
        due("SHORT: and who gives it just so", zero.ask(HONEST, 64, false), TAKEN);
        due("SHORT: has it held", zero.held(0), odd);
    }

    private static void shortDigests() {
        SnapshotPieces s = openedToLeaves(4, 5);
        s.target(2);
        for (int node = 1; node <= 32; node *= 2) {
            due("SHORT: change places, node " + node, s.ask(SHORT, node, false), REFUSED);
            s.ask(HONEST, node, false);
        }
        due("SHORT: change places: faults", s.faults(SHORT), 6);
    }

    private static void shortDigestsThatAreEqual() {
        SnapshotPieces none = new SnapshotPieces();
        none.giver(SHORT, -1);
        none.target(0);
        none.rot(63, 1);
        due("SHORT: two of 0 change places", none.ask(0, 1, false), TAKEN);
        due("SHORT: two of 0 are known", none.count(KNOWN), 3);
        long same = Checks.d(1, 5);
        SnapshotPieces s = openedToLeaves(5, Checks.valueOfDigest(1, same));
        s.target(2);
        open(s, 32);
        due("SHORT: two equal ones change places", s.ask(SHORT, 32, false), TAKEN);
        due("SHORT: two equal ones are known", s.count(LACKS), 2);
        due("SHORT: the left leaf", s.ask(HONEST, 64, false), TAKEN);
        due("SHORT: the right leaf", s.ask(HONEST, 65, false), TAKEN);
        due("SHORT: joined", s.joined(), 1);
    }

    private static void shortRow() {
        SnapshotPieces s = openedToLeaves(4, 5);
        s.target(2);
        open(s, 4);
        due("SHORT: the last LEAF is not in the row", s.ask(SHORT, 4, true), REFUSED);
        due("SHORT: the last LEAF is not in the row: one", bytesOf(s, SHORT, 4, true), 16);
        SnapshotPieces one = filled(1);
        giveAllKinds(one);
        one.target(1);
        open(one, 4);
        due("SHORT: the only LEAF is not in the row", bytesOf(one, SHORT, 4, true), 4);
        due("SHORT: the only LEAF is not in the row: refused", one.faults(SHORT), 1);
        SnapshotPieces zero = openedToLeaves(4, Checks.valueOfDigestZero(1));
        zero.target(2);
        open(zero, 4);
        due("SHORT: the last LEAF, not the first", zero.ask(SHORT, 4, true), TAKEN);
        due("SHORT: the first is held", zero.held(0), 4);
        due("SHORT: the last is not", zero.held(1), 0);
        due("SHORT: joined", zero.joined(), 1);
    }

    private static void shortRowWithoutLeaves() {
        SnapshotPieces s = openedToFour(3);
        s.giver(SHORT, -1);
        s.rot(31, 6);
        due("SHORT: a row without LEAVES has none to lose", bytesOf(s, 1, 5, true), 4);
        due("SHORT: a row without LEAVES is right", s.held(31), 0);
        due("SHORT: a row without LEAVES is no fault", s.faults(1), 0);
    }

    private static void oldLeaf() {
        SnapshotPieces s = openedToLeaves(4, 5);
        due("OLD: the LEAF told at the TARGET", s.ask(OLD, 65, false), REFUSED);
        due("OLD: another LEAF", s.ask(OLD, 64, false), TAKEN);
        due("OLD: 8 BYTES", bytesOf(s, OLD, 65, false), 8);
        s.leaf(1, 5);
        s.target(3);
        open(s, 64);
        due("OLD: a LEAF told the same again", s.ask(OLD, 65, false), TAKEN);
    }

    private static void oldDigests() {
        SnapshotPieces s = filled(40);
        giveAllKinds(s);
        s.target(40);
        due("OLD: two DIGESTS above the LEAF told", s.ask(OLD, 1, false), REFUSED);
        s.ask(HONEST, 1, false);
        due("OLD: two DIGESTS of another side", s.ask(OLD, 2, false), TAKEN);
        due("OLD: two DIGESTS of its side", s.ask(OLD, 3, false), REFUSED);
        due("OLD: faults", s.faults(OLD), 2);
    }

    private static void oldRow() {
        SnapshotPieces s = openedToFour(3);
        s.giver(OLD, -1);
        due("OLD: a row of the height before", bytesOf(s, 1, 4, true), 4 + 2 * 12);
        due("OLD: a row of the height before is refused", s.faults(1), 1);
        SnapshotPieces gone = filled(3);
        gone.giver(HONEST, -1);
        gone.giver(OLD, -1);
        gone.leaf(0, 0);
        gone.target(4);
        open(gone, 4);
        due("OLD: with a LEAF that is EMPTY now", bytesOf(gone, 1, 4, true), 4 + 3 * 12);
        due("OLD: with a LEAF that is EMPTY now: refused", gone.faults(1), 1);
    }

    private static void oldAtHeight0() {
        SnapshotPieces s = filled(1);
        s.giver(OLD, -1);
        s.target(0);
        s.rot(9, 9);
        due("at 0: as at 0: two DIGESTS", s.ask(0, 1, false), TAKEN);
        openRotten(s, 4);
        due("at 0: as at 0: a row", s.ask(0, 4, true), TAKEN);
        openRotten(s, 64);
        due("at 0: as at 0: a LEAF", s.ask(0, 64, false), TAKEN);
        due("at 0: as at 0: joined", s.joined(), 1);
        s.target(1);
        due("at 1: as at 0", s.ask(0, 1, false), REFUSED);
    }

    private static void oldByItsHead() {
        SnapshotPieces s = filled(3);
        s.giver(OLD, 2);
        s.target(3);
        due("OLD: NOTHING if its HEAD is below the TARGET", s.ask(0, 1, false), NOTHING);
        s.target(2);
        due("OLD: of the height before the TARGET, not its HEAD", s.ask(0, 1, false), REFUSED);
    }

    // ---- judged

    /** Known are the two digests in each other's place: who gives the state's own value is refused then. */
    private static void judgedByWhatIsKnown() {
        SnapshotPieces s = new SnapshotPieces();
        long right = Checks.valueOfDigest(1, Checks.SWAPS);
        long left = Checks.valueOfDigest(0, Checks.SWAPS);
        s.leaf(1, right);
        s.leaf(0, left);
        s.leaf(0, 0);
        giveAllKinds(s);
        s.target(3);
        open(s, 32);
        s.rot(1, 77);
        due("that which is KNOWN: changed places", s.ask(SHORT, 32, false), TAKEN);
        due("that which is KNOWN: 0 of leaf 1", s.held(1), 0);
        due("that which is KNOWN: leaf 0 is missing", s.missing(0), 64);
        due("that which is KNOWN: an honest giver", s.ask(HONEST, 64, false), REFUSED);
        due("that which is KNOWN: is named", s.named(0), HONEST);
        due("that which is KNOWN: an old one has it", s.ask(OLD, 64, false), TAKEN);
        due("that which is KNOWN: held", s.held(0), left);
        due("that which is KNOWN: joined", s.joined(), 1);
        due("that which is KNOWN: not all as in the state", s.mine(64) == s.digest(3, 64) ? 1 : 0, 0);
    }

    private static void leafJudged() {
        SnapshotPieces s = openedToLeaves(4, 5);
        due("of a LEAF that VALUE's: taken", s.ask(HONEST, 64, false), TAKEN);
        due("of a LEAF that VALUE's: held", s.held(0), 4);
        due("of a LEAF that VALUE's: its neighbour is not", s.held(1), 0);
        s.rot(0, 0);
        due("of a LEAF that VALUE's: rot to 0", s.missing(0), 64);
        due("of a LEAF that VALUE's: again", s.ask(HONEST, 64, false), TAKEN);
    }

    private static void twoDigestsOf0() {
        SnapshotPieces s = new SnapshotPieces();
        s.giver(HONEST, -1);
        s.target(0);
        for (int node = 1; node <= 32; node *= 2) {
            s.rot(0, 5);
            due("0 if both are 0: node " + node, s.ask(0, node, false), TAKEN);
            due("0 if both are 0: empty by node " + node, s.held(0), 0);
        }
        due("0 if both are 0: all are known", s.count(KNOWN), 13);
    }

    private static void rowJudgedAlone() {
        SnapshotPieces s = openedToFour(20);
        s.rot(0, 8);
        s.rot(16, 8);
        s.rot(40, 8);
        due("with these LEAVES alone: whatever is held", s.ask(0, 5, true), TAKEN);
        due("with these LEAVES alone: held", s.held(16), 26);
        due("with these LEAVES alone: not beside", s.held(0), 8);
        due("with these LEAVES alone: nor behind", s.held(40), 8);
        SnapshotPieces again = openedToFour(20);
        again.ask(0, 4, true);
        again.target(3);
        open(again, 4);
        due("with these LEAVES alone: not with an earlier row's", again.ask(0, 4, true), TAKEN);
        due("with these LEAVES alone: three", again.count(FILLED), 3);
    }

    private static void rowOfTheSameDigest() {
        SnapshotPieces s = new SnapshotPieces();
        long odd = Checks.valueOfDigestZero(1);
        s.leaf(0, 4);
        s.leaf(1, odd);
        s.leaf(1, 0);
        s.giver(HONEST, -1);
        s.giver(OLD, -1);
        s.target(3);
        open(s, 4);
        due("JUDGED by the DIGEST: a row with one LEAF more", s.ask(1, 4, true), TAKEN);
        due("JUDGED by the DIGEST: which is held", s.held(1), odd);
        due("JUDGED by the DIGEST: joined", s.joined(), 1);
    }

    private static void takenRowEmptiesTheRest() {
        SnapshotPieces s = openedToFour(3);
        for (int p = 0; p < 32; p++) {
            s.rot(p, 5);
        }
        due("those that are not in it EMPTY: taken", s.ask(0, 4, true), TAKEN);
        for (int p = 0; p < 32; p++) {
            due("those that are not in it EMPTY: " + p, s.held(p), p < 3 ? p + 10 : p < 16 ? 0 : 5);
        }
        due("those that are not in it EMPTY: none is known by a row", s.count(KNOWN), 5);
    }

    private static void takenDigestsAreKnown() {
        SnapshotPieces s = filled(64);
        s.giver(HONEST, -1);
        s.target(64);
        s.rot(0, 10);
        s.ask(0, 1, false);
        due("both DIGESTS are KNOWN: how many", s.count(KNOWN), 3);
        due("both DIGESTS are KNOWN: the left one", s.missing(0), 2);
        due("both DIGESTS are KNOWN: the right one", s.missing(1), 3);
        due("both DIGESTS are KNOWN: what is held stays", s.held(0), 10);
        open(s, 64);
        due("both DIGESTS are KNOWN: what is held fits", s.ask(0, 64, false), NOT);
        due("both DIGESTS are KNOWN: how many then", s.count(KNOWN), 13);
    }

    private static void refusedChangesNothingHeld() {
        SnapshotPieces s = openedToFour(40);
        s.giver(TURNED, -1);
        s.rot(0, 8);
        long root = s.mine(1);
        s.ask(1, 4, true);
        s.ask(1, 4, false);
        s.ask(1, 3, false);
        due("REFUSED: what is held", s.mine(1), root);
        due("REFUSED: what is known", s.count(KNOWN), 5);
        due("REFUSED: what is missing", s.count(LACKS), 3);
    }

    private static void refusedIsAFault() {
        SnapshotPieces s = filled(5);
        giveAllKinds(s);
        s.target(5);
        for (int kind = TURNED; kind <= OLD; kind++) {
            due("a FAULT more: none yet, kind " + kind, s.faults(kind), 0);
            for (int i = 1; i <= 3; i++) {
                due("a FAULT more: refused, kind " + kind, s.ask(kind, 1, false), REFUSED);
                due("a FAULT more: kind " + kind, s.faults(kind), i);
            }
        }
        due("a FAULT more: not of others", s.faults(HONEST), 0);
        s.ask(HONEST, 1, false);
        due("a FAULT more: not of what is taken", s.faults(HONEST), 0);
    }

    private static void namedOnce() {
        SnapshotPieces s = filled(5);
        s.giver(TURNED, -1);
        s.target(5);
        for (int i = 0; i < 3; i++) {
            s.ask(0, 1, false);
            due("is NAMED, if it was not: how many", s.count(NAMED), 1);
        }
        due("is NAMED, if it was not: who", s.named(0), 0);
        s.cut();
        s.target(4);
        s.ask(0, 1, false);
        due("is NAMED, if it was not: at another height", s.count(NAMED), 1);
        due("is NAMED, if it was not: no second", s.named(1), BAD);
    }

    private static void namedInTheirOrder() {
        SnapshotPieces s = filled(5);
        for (int g = 0; g < 12; g++) {
            s.giver(TURNED, -1);
        }
        s.target(5);
        for (int i = 0; i < 12; i++) {
            int g = (i * 5 + 7) % 12;
            due("behind those NAMED: not yet " + i, s.named(i), BAD);
            s.ask(g, 1, false);
            s.ask(7, 1, false);
            due("behind those NAMED: how many", s.count(NAMED), i + 1);
        }
        for (int i = 0; i < 12; i++) {
            due("behind those NAMED: " + i, s.named(i), (i * 5 + 7) % 12);
        }
        due("behind those NAMED: no more", s.named(12), BAD);
        due("behind those NAMED: faults", s.faults(7), 13);
    }

    private static void bytesOfWhatIsRefused() {
        SnapshotPieces s = openedToLeaves(4, 5);
        due("also of what is REFUSED: a LEAF", bytesOf(s, TURNED, 64, false), 8);
        due("also of what is REFUSED: a LEAF of 0", bytesOf(s, SHORT, 64, false), 8);
        s.target(2);
        due("also of what is REFUSED: two DIGESTS", bytesOf(s, TURNED, 1, false), 16);
        open(s, 4);
        due("also of what is REFUSED: a row", bytesOf(s, TURNED, 4, true), 28);
        due("also of what is REFUSED: a short row", bytesOf(s, SHORT, 4, true), 16);
        due("also of what is REFUSED: faults", s.faults(TURNED) + s.faults(SHORT), 5);
        int before = s.count(BYTES);
        s.target(1);
        s.cut();
        due("BYTES that came: a target and a cut keep them", s.count(BYTES), before);
    }

    private static void nothingHasNoBytes() {
        SnapshotPieces s = filled(5);
        s.giver(HONEST, 4);
        s.giver(LAZY, -1);
        s.target(5);
        due("BYTES that came: none of NOTHING", bytesOf(s, 0, 1, false), 0);
        due("BYTES that came: the first", bytesOf(s, 1, 1, false), 16);
        due("BYTES that came: none at an even ASK", bytesOf(s, 1, 2, false), 0);
        due("NOTHING is no FAULT", s.faults(0) + s.faults(1) + s.count(NAMED), 0);
        due("NOTHING: still missing", s.missing(0), 2);
    }

    // ---- calls

    private static void a512thCall() {
        SnapshotPieces s = filledUp();
        s.giver(HONEST, -1);
        s.giver(TURNED, -1);
        s.target(200);
        for (int call = 204; call <= 300; call++) {
            s.ask(1, 1, false);
        }
        for (int call = 301; call <= 363; call++) {
            s.ask(0, call - 300, false);
        }
        for (int call = 364; call <= 427; call++) {
            s.ask(0, call - 300, false);
        }
        for (int call = 428; call <= 510; call++) {
            s.rot(63, call);
        }
        due("at most 512 calls: the 511th", s.rot(63, 1063), 0);
        due("at most 512 calls: the 512th", s.joined(), 1);
    }

    private static void laterCallsDoNotThrow() {
        SnapshotPieces s = filledUp();
        giveAllKinds(s);
        int answers = 0;
        for (int i = 0; i < 3000; i++) {
            s.target(i % 201);
            s.play(i, 300);
            s.leaf(i % 64, i);
            s.giver(i % 5, -1);
            s.rot(i % 64, i);
            s.cut();
            answers++;
        }
        due("later calls are free to answer, not to throw", answers, 3000);
    }
}
