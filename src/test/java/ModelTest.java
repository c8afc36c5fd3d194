import java.util.List;
import java.util.Random;

/** Runs of calls by chance (the seeds are fixed) whose answers have to be those of the plain model. */
public final class ModelTest {
    private static final int RUNS = 1500;
    private static final int CALLS = 280;
    private static final int NEAR_THE_TOP = 195;
    private static final int[] EDGES = {Integer.MIN_VALUE, -2, -1, 0, 1, 2, 3, 4, 11, 12, 13, 62, 63, 64, 65,
        126, 127, 128, 199, 200, 201, 299, 300, 301, Integer.MAX_VALUE};

    private final Checks checks;
    private final Random chance;
    private final String run;
    private final SnapshotPieces real = new SnapshotPieces();
    private final Model model = new Model();
    private final int leafWidth;
    private final boolean tinyValues;

    private ModelTest(Checks checks, int seed) {
        this.checks = checks;
        chance = new Random(seed);
        run = "run " + seed + ": ";
        leafWidth = 1 << chance.nextInt(7);
        tinyValues = chance.nextBoolean();
    }

    public static void main(String[] args) {
        Checks checks = new Checks();
        for (int seed = 0; seed < RUNS; seed++) {
            new ModelTest(checks, seed).go();
        }
        checks.end();
    }

    private void go() {
        int leaves = chance.nextInt(12) == 0 ? NEAR_THE_TOP + chance.nextInt(12) : chance.nextInt(40);
        for (int i = 0; i < leaves; i++) {
            callLeaf();
        }
        for (int i = chance.nextInt(8); i > 0; i--) {
            callGiver();
        }
        for (int i = leaves + 8; i < CALLS; i++) {
            callAny();
        }
        compareAll();
    }

    private int edge() {
        return EDGES[chance.nextInt(EDGES.length)];
    }

    private boolean odd() {
        return chance.nextInt(25) == 0;
    }

    private int path() {
        return odd() ? edge() : chance.nextInt(leafWidth);
    }

    private long someValue(int path) {
        int kind = chance.nextInt(tinyValues ? 5 : 8);
        return kind < 5 ? kind / 2 : kind == 5 ? Checks.valueOfDigestZero(path) : chance.nextLong();
    }

    private int height() {
        return odd() ? edge() : chance.nextInt(model.count(0) + 1);
    }

    private int giverNumber() {
        return odd() || model.count(1) == 0 ? edge() : chance.nextInt(model.count(1));
    }

    private int node() {
        List<Integer> all = model.allMissing();
        if (odd() || all.isEmpty()) {
            return odd() ? edge() : 1 + chance.nextInt(127);
        }
        return all.get(chance.nextInt(all.size()));
    }

    private void callLeaf() {
        int p = path();
        long v = someValue(p);
        checks.due(run + "leaf(" + p + ", " + v + ")", real.leaf(p, v), model.leaf(p, v));
    }

    private void callGiver() {
        int kind = odd() ? edge() : chance.nextInt(5);
        int head = odd() ? edge() : chance.nextInt(3) == 0 ? chance.nextInt(201) : -1;
        checks.due(run + "giver(" + kind + ", " + head + ")", real.giver(kind, head), model.giver(kind, head));
    }

    private void callAny() {
        int which = chance.nextInt(100);
        if (which < 3) {
            callLeaf();
        } else if (which < 5) {
            callGiver();
        } else if (which < 10) {
            int h = height();
            checks.due(run + "target(" + h + ")", real.target(h), model.target(h));
        } else if (which < 60) {
            callAsk();
        } else if (which < 65) {
            callPlay();
        } else if (which < 70) {
            int p = path();
            long v = someValue(p);
            checks.due(run + "rot(" + p + ", " + v + ")", real.rot(p, v), model.rot(p, v));
        } else if (which < 72) {
            checks.due(run + "cut()", real.cut(), model.cut());
        } else {
            look();
        }
    }

    private void callAsk() {
        int g = giverNumber();
        int n = node();
        boolean whole = chance.nextInt(4) == 0;
        checks.due(run + "ask(" + g + ", " + n + ", " + whole + ")", real.ask(g, n, whole), model.ask(g, n, whole));
    }

    private void callPlay() {
        long seed = chance.nextLong();
        int n = odd() ? edge() : 1 + chance.nextInt(20);
        checks.due(run + "play(" + seed + ", " + n + ")", real.play(seed, n), model.play(seed, n));
    }

    private void look() {
        int a = odd() ? edge() : chance.nextInt(12);
        switch (chance.nextInt(9)) {
            case 0: lookAtHeight(); break;
            case 1: checks.due(run + "faults(" + a + ")", real.faults(a), model.faults(a)); break;
            case 2: checks.due(run + "named(" + a + ")", real.named(a), model.named(a)); break;
            case 3: checks.due(run + "missing(" + a + ")", real.missing(a), model.missing(a)); break;
            case 4: checks.due(run + "joined()", real.joined(), model.joined()); break;
            case 5: lookAtHeld(path()); break;
            case 6: lookAtMine(odd() ? edge() : 1 + chance.nextInt(127)); break;
            default: lookAtCount(a); break;
        }
    }

    private void lookAtHeight() {
        int h = height();
        int p = path();
        int n = odd() ? edge() : 1 + chance.nextInt(127);
        checks.due(run + "value(" + h + ", " + p + ")", real.value(h, p), model.value(h, p));
        checks.due(run + "digest(" + h + ", " + n + ")", real.digest(h, n), model.digest(h, n));
    }

    private void lookAtHeld(int p) {
        checks.due(run + "held(" + p + ")", real.held(p), model.held(p));
    }

    private void lookAtMine(int n) {
        checks.due(run + "mine(" + n + ")", real.mine(n), model.mine(n));
    }

    private void lookAtCount(int what) {
        checks.due(run + "count(" + what + ")", real.count(what), model.count(what));
    }

    /** Ends a run within the 512 calls for which an object is used. */
    private void compareAll() {
        for (int what = 0; what < 9; what++) {
            lookAtCount(what);
        }
        for (int p = 0; p < 64; p++) {
            lookAtHeld(p);
        }
        for (int n = 1; n < 64; n++) {
            lookAtMine(n);
        }
        for (int k = 0; k < 12; k++) {
            checks.due(run + "named(" + k + ")", real.named(k), model.named(k));
            checks.due(run + "faults(" + k + ")", real.faults(k), model.faults(k));
            checks.due(run + "missing(" + k + ")", real.missing(k), model.missing(k));
        }
    }
}
