import java.util.TreeSet;

/** All ways along one or two candles, tick by tick. */
final class SlowAlong {
    // All moments of two candles are multiples of a quarter of a minute.
    private static final int TICK = 64;

    private SlowAlong() {
    }

    /** Candles are told by the minutes of their pieces. */
    static TreeSet<Integer> moments(int[][] candles) {
        TreeSet<Integer> moments = new TreeSet<>();
        choose(candles, 0, new int[2 * candles.length], new boolean[2 * candles.length], moments);
        return moments;
    }

    /** At a moment: every set of places that are not lit yet is tried. */
    private static void choose(int[][] candles, int now, int[] gone, boolean[] lit, TreeSet<Integer> moments) {
        for (int more = 0; more < 1 << lit.length; more++) {
            boolean[] then = lit.clone();
            boolean may = true;
            for (int place = 0; place < lit.length; place++) {
                if ((more >> place & 1) != 0) {
                    may &= !lit[place] && !hasEnded(candles, gone, place / 2);
                    then[place] = true;
                }
            }
            if (may) {
                burnOn(candles, now, gone.clone(), then, moments);
            }
        }
    }

    private static void burnOn(int[][] candles, int from, int[] gone, boolean[] lit, TreeSet<Integer> moments) {
        boolean burns = false;
        for (int place = 0; place < lit.length; place++) {
            burns |= lit[place] && !hasEnded(candles, gone, place / 2);
        }
        if (!burns) {
            return;
        }
        int now = from;
        boolean moment = false;
        while (!moment) {
            now += TICK;
            for (int c = 0; c < candles.length; c++) {
                if (hasEnded(candles, gone, c)) {
                    continue;
                }
                for (int end = 0; end < 2; end++) {
                    if (lit[2 * c + end]) {
                        gone[2 * c + end] += TICK;
                        moment |= meetsPieces(candles[c], gone[2 * c + end], end == 1);
                    }
                }
                moment |= hasEnded(candles, gone, c);
            }
        }
        moments.add(now);
        choose(candles, now, gone, lit, moments);
    }

    private static boolean hasEnded(int[][] candles, int[] gone, int c) {
        int all = 0;
        for (int minutes : candles[c]) {
            all += minutes * 256;
        }
        if (gone[2 * c] + gone[2 * c + 1] > all) {
            throw new IllegalStateException("a tick is too long");
        }
        return gone[2 * c] + gone[2 * c + 1] == all;
    }

    private static boolean meetsPieces(int[] pieces, int burnt, boolean fromEnd) {
        int sum = 0;
        for (int i = 0; i + 1 < pieces.length; i++) {
            sum += 256 * pieces[fromEnd ? pieces.length - 1 - i : i];
            if (sum == burnt) {
                return true;
            }
        }
        return false;
    }
}
