/** What the project's tests share: the count of wrong answers, and D of the document. */
final class Checks {
    private static final long BY_X = 0x9E3779B97F4A7C15L;
    private static final long BY_Z = 0xBF58476D1CE4E5B9L;

    /** With it d(SWAPS, 0) is d(0, SWAPS): the two may change places, and the digest above is the same. */
    static final long SWAPS = (6583425L << 41) + 957198677437L;

    private int wrong = 0;
    private int seen = 0;

    void due(String call, long got, long want) {
        seen++;
        if (got != want) {
            wrong++;
            System.out.println(call + " answered " + got + ", due is " + want);
        }
    }

    void end() {
        System.out.println(seen + " answers, " + wrong + " not as due");
        if (wrong != 0) {
            System.exit(1);
        }
    }

    static long d(long x, long y) {
        long z = x * BY_X + Long.rotateLeft(y, 23);
        z ^= z >>> 29;
        z *= BY_Z;
        z ^= z >>> 32;
        return z;
    }

    /** The y for which d(x, y) is the digest: digests can be made to meet with it. */
    static long yFor(long x, long digest) {
        long z = digest ^ (digest >>> 32);
        z *= inverse(BY_Z);
        z = z ^ (z >>> 29) ^ (z >>> 58);
        return Long.rotateRight(z - x * BY_X, 23);
    }

    /** By Newton's steps, each of which doubles the bits that are right. */
    private static long inverse(long odd) {
        long r = odd;
        for (int i = 0; i < 6; i++) {
            r *= 2 - odd * r;
        }
        return r;
    }

    /** The seed of a play whose first x this is. */
    static long seedFor(long x) {
        return (x - 1442695040888963407L) * inverse(6364136223846793005L);
    }

    /** A value of a leaf that is not empty, but whose digest is 0. */
    static long valueOfDigestZero(int path) {
        return valueOfDigest(path, 0);
    }

    /** The value with which a leaf has the digest. */
    static long valueOfDigest(int path, long digest) {
        return yFor(path + 1, digest);
    }
}
