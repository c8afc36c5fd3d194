import java.util.ArrayList;
import java.util.List;
import java.util.Map;
import java.util.TreeMap;

/** The document's words as plainly as they can be run: all is reckoned anew at each call. */
final class Model {
    static final int BAD = -1, FULL = -2, NOT = -3;

    private static final class Giver {
        final int kind;
        final int head;
        int asks = 0;
        int faults = 0;

        Giver(int kind, int head) {
            this.kind = kind;
            this.head = head;
        }
    }

    private final List<long[]> states = new ArrayList<>();
    private final List<Giver> givers = new ArrayList<>();
    private final List<Integer> names = new ArrayList<>();
    private final Map<Integer, Long> known = new TreeMap<>();
    private final long[] held = new long[64];
    private int target = -1;
    private int bytes = 0;

    Model() {
        states.add(new long[64]);
    }

    private static long digestIn(long[] state, int node) {
        if (node >= 64) {
            long v = state[node - 64];
            return v == 0 ? 0 : Checks.d(node - 63, v);
        }
        return pairDigest(digestIn(state, 2 * node), digestIn(state, 2 * node + 1));
    }

    private static long pairDigest(long x, long y) {
        return x == 0 && y == 0 ? 0 : Checks.d(x, y);
    }

    private static boolean below(int path, int node) {
        for (int n = 64 + path; n >= 1; n /= 2) {
            if (n == node) {
                return true;
            }
        }
        return false;
    }

    List<Integer> allMissing() {
        List<Integer> all = new ArrayList<>();
        for (int node : known.keySet()) {
            boolean other = known.get(node) != digestIn(held, node);
            boolean open = node >= 64 || !known.containsKey(2 * node) && !known.containsKey(2 * node + 1);
            if (other && open) {
                all.add(node);
            }
        }
        return all;
    }

    private void know(int node, long digest) {
        known.put(node, digest);
        if (digest == 0) {
            for (int p = 0; p < 64; p++) {
                if (below(p, node)) {
                    held[p] = 0;
                }
            }
        }
    }

    int leaf(int path, long v) {
        if (path < 0 || path > 63) {
            return BAD;
        }
        if (states.size() == 201) {
            return FULL;
        }
        long[] next = states.get(states.size() - 1).clone();
        next[path] = v;
        states.add(next);
        return states.size() - 1;
    }

    long value(int height, int path) {
        return height < 0 || height >= states.size() || path < 0 || path > 63 ? 0 : states.get(height)[path];
    }

    long digest(int height, int node) {
        return height < 0 || height >= states.size() || node < 1 || node > 127 ? 0 : digestIn(states.get(height), node);
    }

    int giver(int kind, int head) {
        if (kind < 0 || kind > 4 || head < -1 || head > 200) {
            return BAD;
        }
        if (givers.size() == 12) {
            return FULL;
        }
        givers.add(new Giver(kind, head));
        return givers.size() - 1;
    }

    int faults(int giver) {
        return giver < 0 || giver >= givers.size() ? BAD : givers.get(giver).faults;
    }

    int named(int k) {
        return k < 0 || k >= names.size() ? BAD : names.get(k);
    }

    int target(int height) {
        if (height < 0 || height >= states.size()) {
            return BAD;
        }
        target = height;
        known.clear();
        know(1, digest(height, 1));
        return allMissing().size();
    }

    int ask(int giver, int node, boolean whole) {
        if (giver < 0 || giver >= givers.size() || node < 1 || node > 127 || whole && node <= 3) {
            return BAD;
        }
        if (!allMissing().contains(node)) {
            return NOT;
        }
        Giver g = givers.get(giver);
        g.asks++;
        if (g.head != -1 && g.head < target || g.kind == 4 && g.asks % 2 == 0) {
            return 2;
        }
        long[] state = states.get(g.kind == 3 && target > 0 ? target - 1 : target);
        boolean taken = node >= 64 ? leafComes(g.kind, state[node - 64], node)
            : whole ? rowComes(g.kind, state, node)
            : pairComes(g.kind, digestIn(state, 2 * node), digestIn(state, 2 * node + 1), node);
        if (!taken) {
            g.faults++;
            if (!names.contains(giver)) {
                names.add(giver);
            }
        }
        return taken ? 1 : 0;
    }

    private boolean leafComes(int kind, long v, int node) {
        long came = kind == 1 ? v ^ 1 : kind == 2 ? 0 : v;
        bytes += 8;
        if ((came == 0 ? 0 : Checks.d(node - 63, came)) != known.get(node)) {
            return false;
        }
        held[node - 64] = came;
        return true;
    }

    private boolean pairComes(int kind, long x, long y, int node) {
        long first = kind == 1 ? x ^ 1 : kind == 2 ? y : x;
        long second = kind == 2 ? x : y;
        bytes += 16;
        if (pairDigest(first, second) != known.get(node)) {
            return false;
        }
        know(2 * node, first);
        know(2 * node + 1, second);
        return true;
    }

    private boolean rowComes(int kind, long[] state, int node) {
        TreeMap<Integer, Long> row = new TreeMap<>();
        int least = -1;
        for (int p = 63; p >= 0; p--) {
            if (below(p, node)) {
                least = p;
                if (state[p] != 0) {
                    row.put(p, state[p]);
                }
            }
        }
        if (kind == 1 && row.isEmpty()) {
            row.put(least, 1L);
        } else if (kind == 1) {
            int first = row.firstKey();
            long turned = row.get(first) ^ 1;
            row.remove(first);
            if (turned != 0) {
                row.put(first, turned);
            }
        } else if (kind == 2 && !row.isEmpty()) {
            row.remove(row.lastKey());
        }
        bytes += 4 + 12 * row.size();
        long[] alone = new long[64];
        row.forEach((p, v) -> alone[p] = v);
        if (digestIn(alone, node) != known.get(node)) {
            return false;
        }
        for (int p = 0; p < 64; p++) {
            if (below(p, node)) {
                held[p] = alone[p];
            }
        }
        return true;
    }

    int play(long seed, int n) {
        if (n < 1 || n > 300) {
            return BAD;
        }
        if (target < 0) {
            return NOT;
        }
        long x = seed;
        int taken = 0;
        for (int i = 0; i < n; i++) {
            List<Integer> all = allMissing();
            if (givers.isEmpty() || all.isEmpty()) {
                break;
            }
            x = x * 6364136223846793005L + 1442695040888963407L;
            long h = (x << 1) >>> 33;
            int node = all.get((int) (h / 16 % all.size()));
            if (ask((int) (h % givers.size()), node, h / 4096 % 2 == 1 && node > 3) == 1) {
                taken++;
            }
        }
        return taken;
    }

    int missing(int k) {
        List<Integer> all = allMissing();
        return k < 0 || k >= all.size() ? BAD : all.get(k);
    }

    int joined() {
        return target >= 0 && known.get(1) == digestIn(held, 1) ? 1 : 0;
    }

    long held(int path) {
        return path < 0 || path > 63 ? 0 : held[path];
    }

    long mine(int node) {
        return node < 1 || node > 127 ? 0 : digestIn(held, node);
    }

    int rot(int path, long v) {
        if (path < 0 || path > 63) {
            return BAD;
        }
        held[path] = v;
        return allMissing().size();
    }

    int cut() {
        if (target < 0) {
            return NOT;
        }
        known.keySet().removeIf(node -> node != 1);
        return allMissing().size();
    }

    int count(int what) {
        switch (what) {
            case 0: return states.size() - 1;
            case 1: return givers.size();
            case 2: return target >= 0 ? target : BAD;
            case 3: return allMissing().size();
            case 4: return bytes;
            case 5: return givers.stream().mapToInt(g -> g.asks).sum();
            case 6: return names.size();
            case 7: return (int) java.util.Arrays.stream(held).filter(v -> v != 0).count();
            case 8: return known.size();
            default: return BAD;
        }
    }
}
