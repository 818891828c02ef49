/** Promises 37 to 42: offices, logs, thieves. */
public final class OfficeTest {
    private static final Due due = new Due("OfficeTest");

    public static void main(String[] args) {
        offices();
        logs();
        nearLogs();
        missedBells();
        thieves();
        wrongInputs();
        due.close();
    }

    private static UnevenWax three() {
        return Due.of("candle 10;candle 20;candle 30;",
            "first light 0 and light 1;ends 0 bell;ends 1 bell;",
            "first bell and bell and both 2;ends 2 bell and bell;",
            "first light 0;ends 0 bell;");
    }

    private static void offices() {
        UnevenWax x = three();
        Due.row(x, 0, 3, 2559, 2561, 5122, Long.MAX_VALUE, Long.MIN_VALUE, -1);
        due.is("by 0", x.serves(0, 0, 0), 0);
        due.is("by 1", x.serves(0, 0, 1), 2);
        due.is("by 2", x.serves(0, 0, 2), 3);
        due.is("by 1, bells at 0", x.serves(1, 0, 1), 1);
        due.is("by the most", x.serves(0, 0, Integer.MAX_VALUE), 4);
        due.is("by none", x.serves(3, 0, Integer.MAX_VALUE), 0);
        due.is("fittest by 0", x.fittest(0, 0), 0);
        due.is("fittest by 1", x.fittest(0, 1), 0);
        Due.row(x, 1, 2, 0, 3840);
        due.is("fittest at 0", x.fittest(1, 0), 1);
        Due.row(x, 1, 2, 2560);
        due.is("the first of like ones", x.fittest(1, 0), 0);
        Due.row(x, 1, 2);
        due.is("no offices", x.serves(0, 1, 5), 0);
        due.is("no offices, the first", x.fittest(1, 5), 0);
    }

    private static void logs() {
        UnevenWax x = three();
        Due.row(x, 0, 3, 2560);
        due.is("one bell", x.log(0), 1 + 4);
        Due.row(x, 0, 3, 2561);
        due.is("a spark later", x.log(0), 0);
        due.is("a spark later, missed", x.missed(0, 0, -1), -1);
        Due.row(x, 0, 3, 2560, 5120);
        due.is("two bells", x.log(0), 1);
        Due.row(x, 0, 3, 5120, 2560);
        due.is("out of order", x.log(0), 0);
        Due.row(x, 0, 3, 0, 0, 3840);
        due.is("each bell once", x.log(0), 2);
        Due.row(x, 0, 3, 0, 0, 0);
        due.is("no third bell", x.log(0), 0);
        Due.row(x, 0, 3, 2560L + (1L << 32));
        due.is("64 bits", x.log(0), 0);
        Due.row(x, 0, 3);
        due.is("he slept all night", x.log(0), 15);
    }

    private static void nearLogs() {
        UnevenWax x = three();
        Due.row(x, 0, 3, 2550, 2570);
        due.is("one bell can't be two", x.nearly(0, 10), 0);
        due.is("the second is far", x.nearly(0, 2550), 3);
        due.is("nearer", x.nearly(0, 2549), 2);
        due.is("nearer still", x.nearly(0, 1289), 0);
        Due.row(x, 0, 3, 2561);
        due.is("by 1", x.nearly(0, 1), 5);
        due.is("by 0", x.nearly(0, 0), 0);
        Due.row(x, 0, 3, -1, 1);
        due.is("two bells at 0", x.nearly(0, 1), 2);
        Due.row(x, 0, 3, Long.MIN_VALUE);
        due.is("far away", x.nearly(0, Integer.MAX_VALUE), 0);
        Due.row(x, 0, 3, Integer.MAX_VALUE + 2000L);
        due.is("nearly so far", x.nearly(0, Integer.MAX_VALUE), 7);
    }

    private static void missedBells() {
        UnevenWax x = three();
        Due.row(x, 0, 3, 0, 3840);
        due.is("how many", x.missed(1, 0, -1), 2);
        due.is("the earliest are taken", x.missed(1, 0, 0), 1);
        due.is("the earliest are taken", x.missed(1, 0, 1), 3);
        due.is("not so many", x.missed(1, 0, 2), -1);
        due.is("below NONE", x.missed(1, 0, -2), -1);
        due.is("can't be", x.missed(0, 0, -1), -1);
        Due.row(x, 0, 3);
        due.is("all", x.missed(1, 0, -1), 4);
        due.is("all of none", x.missed(3, 0, -1), 0);
        due.is("none of none", x.missed(3, 0, 0), -1);
        Due.row(x, 0, 3, 0, 0, 3840, 3840);
        due.is("none", x.missed(1, 0, -1), 0);
    }

    private static void thieves() {
        UnevenWax x = three();
        Due.row(x, 0, 3, 0, 5120, 7680);
        due.is("all are there", x.stolen(2, 0), 0);
        Due.row(x, 0, 3, 0, 5119, 7679);
        due.is("two ends", x.stolen(2, 0), 6);
        Due.row(x, 0, 3, 9999999999L, 9999999999L, Long.MIN_VALUE, Long.MIN_VALUE);
        due.is("more numbers than candles", x.stolen(2, 0), 4);
        Due.row(x, 0, 3, -1);
        due.is("less than nothing", x.stolen(2, 0), 1);
        Due.row(x, 0, 3);
        due.is("nothing told", x.stolen(2, 0), 0);
        UnevenWax y = Due.of("candle 1;candle 2;", "first join 0 1;");
        Due.row(y, 0, 3, 767, 0);
        due.is("joined", y.stolen(0, 0), 1);
    }

    private static void wrongInputs() {
        UnevenWax x = three();
        int[] none = {-1, 4, Integer.MAX_VALUE, Integer.MIN_VALUE};
        for (int i : none) {
            due.is("serves, plan", x.serves(i, 0, -1), -2);
            due.is("serves, row", x.serves(0, i, -1), -2);
            due.is("fittest, row", x.fittest(i, -1), -2);
            due.is("log, row", x.log(i), -2);
            due.is("nearly, row", x.nearly(i, -1), -2);
            due.is("missed, plan", x.missed(i, 0, 0), -2);
            due.is("missed, row", x.missed(0, i, 0), -2);
            due.is("stolen, plan", x.stolen(i, 0), -2);
            due.is("stolen, row", x.stolen(0, i), -2);
        }
        due.is("serves, missing", x.serves(0, 3, -1), -6);
        due.is("fittest, missing", x.fittest(3, -1), -6);
        due.is("log, missing", x.log(3), -6);
        due.is("nearly, missing", x.nearly(3, -1), -6);
        due.is("missed, missing", x.missed(0, 3, 0), -6);
        due.is("stolen, missing", x.stolen(0, 3), -6);
        x.numbers(3, 0, 1);
        due.is("serves, sparks", x.serves(0, 3, -1), -3);
        due.is("fittest, sparks", x.fittest(3, -1), -3);
        due.is("nearly, sparks", x.nearly(3, -1), -3);
    }
}
