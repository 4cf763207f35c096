/** Draws as the document tells them, and seeds behind which they go as a test wants them. */
final class Draws {
    static int next(int z) {
        return z * 1103515245 + 12345;
    }

    /** z behind so many draws. */
    static int behind(int z, int draws) {
        int then = z;
        for (int i = 0; i < draws; i++) {
            then = next(then);
        }
        return then;
    }

    /** The least seed from 1 on whose draws, one by one, have the rests wanted: a divisor and a rest each; divisor 0: any. */
    static int seed(int... wanted) {
        for (int seed = 1; seed < Integer.MAX_VALUE; seed++) {
            if (goes(seed, wanted)) {
                return seed;
            }
        }
        throw new IllegalStateException("no seed draws so");
    }

    /** The least seed from 1 on whose first draws all have a rest by 1000 that is not 999: below the greatest r and q. */
    static int seedBelow999(int draws) {
        int seed = 1;
        while (!isBelow999(seed, draws)) {
            seed++;
        }
        return seed;
    }

    private static boolean isBelow999(int seed, int draws) {
        for (int i = 1; i <= draws; i++) {
            if ((behind(seed, i) >>> 8) % 1000 == 999) {
                return false;
            }
        }
        return true;
    }

    private static boolean goes(int seed, int[] wanted) {
        int z = seed;
        for (int i = 0; i < wanted.length; i += 2) {
            z = next(z);
            if (wanted[i] != 0 && (z >>> 8) % wanted[i] != wanted[i + 1]) {
                return false;
            }
        }
        return true;
    }
}
