import java.util.TreeSet;

/** Promises 35 and 36: ways along candles, also against a slow model that goes tick by tick. */
public final class AlongTest {
    private static final Due due = new Due("AlongTest");

    public static void main(String[] args) {
        onePiece();
        twoPieces();
        twoCandles();
        wrongInputs();
        againstTicks(new int[][] {{3}});
        againstTicks(new int[][] {{1, 2, 1, 3, 1, 2}});
        againstTicks(new int[][] {{2, 2}});
        againstTicks(new int[][] {{1}, {1}});
        againstTicks(new int[][] {{1, 3}, {2}});
        againstTicks(new int[][] {{2, 1}, {1, 2}});
        againstTicks(new int[][] {{1, 1, 2}, {3, 1}});
        againstTicks(new int[][] {{1, 2, 1}, {1, 1, 3}});
        againstTicks(new int[][] {{1, 4, 1, 1}, {2, 5}});
        againstTicks(new int[][] {{1, 2, 1, 1, 3, 1}, {2, 1, 1, 1, 2, 1}});
        due.close();
    }

    private static void onePiece() {
        UnevenWax x = Due.of("candle 9;candle 60;");
        due.is("how many", x.alongs(2, -1), 2);
        due.is("half", x.alongs(2, 0), 7680);
        due.is("all", x.alongs(2, 1), 15360);
        due.is("no third", x.alongs(2, 2), -1);
        due.is("-2", x.alongs(2, -2), -1);
        due.is("along", x.along(2, 7680), 1);
        due.is("not along", x.along(2, 7681), 0);
        due.is("never", x.along(2, Integer.MAX_VALUE), 0);
    }

    private static void twoPieces() {
        UnevenWax x = Due.of("candle 10 30;");
        int[] want = {2560, 5120, 6400, 7680, 8960, 10240};
        due.is("how many", x.alongs(1, -1), want.length);
        for (int k = 0; k < want.length; k++) {
            due.is("alongs " + k, x.alongs(1, k), want[k]);
            due.is("along " + want[k], x.along(1, want[k]), 1);
        }
        due.is("along 3840", x.along(1, 3840), 0);
    }

    private static void twoCandles() {
        UnevenWax x = Due.of("candle 60;candle 60;");
        int[] minutes = {30, 45, 60, 75, 90, 105, 120};
        for (int m : minutes) {
            boolean told = m != 75 && m != 105;
            due.is(m + " minutes", x.along(3, m * 256), told ? 1 : 0);
        }
        Due.cellar(x, "candle 60;candle 10;");
        due.is("by the new cellar", x.alongs(3, 0), 1280);
        due.is("of one", x.alongs(1, -1), 2);
        due.is("of the other", x.alongs(2, -1), 2);
        due.is("at 1", x.along(2, 1), 0);
        Due.cellar(x, "candle 60 60 60 60 60 60;".repeat(8));
        due.is("the last of two great ones", x.alongs(0xc0, x.alongs(0xc0, -1) - 1), 2 * 92160);
        due.is("three are too many", x.alongs(0xe0, -1), -3);
    }

    private static void wrongInputs() {
        UnevenWax x = Due.of("candle 1;candle 2;candle 3;");
        int[] sets = {0, -1, 7, 8, 9, Integer.MIN_VALUE, Integer.MAX_VALUE};
        for (int set : sets) {
            due.is("along " + set, x.along(set, 256), -3);
            due.is("alongs " + set, x.alongs(set, -1), -3);
        }
        due.is("time 0", x.along(1, 0), -3);
        due.is("time -1", x.along(1, -1), -3);
    }

    private static void againstTicks(int[][] candles) {
        StringBuilder text = new StringBuilder();
        for (int[] candle : candles) {
            text.append("candle");
            for (int minutes : candle) {
                text.append(' ').append(minutes);
            }
            text.append(';');
        }
        UnevenWax x = Due.of(text.toString());
        TreeSet<Integer> moments = SlowAlong.moments(candles);
        int set = (1 << candles.length) - 1;
        due.is(text + " how many", x.alongs(set, -1), moments.size());
        int k = 0;
        for (int time : moments) {
            due.is(text + " alongs " + k, x.alongs(set, k), time);
            k++;
        }
    }
}
