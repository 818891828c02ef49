/** Promises 24 to 34: what can be told by sets of candles. */
public final class WayTest {
    private static final Due due = new Due("WayTest");

    public static void main(String[] args) {
        oneCandle();
        outOrNot();
        betweenEnds();
        leastSets();
        fewestFlames();
        leastBurnt();
        firstWays();
        lacking();
        togetherTold();
        nearestTimes();
        newCellars();
        greatCandles();
        wrongInputs();
        due.close();
    }

    private static void oneCandle() {
        UnevenWax x = Due.of("candle 1;");
        due.is("how many", x.time(1, false, -1), 2);
        due.is("0", x.time(1, false, 0), 128);
        due.is("1", x.time(1, true, 1), 256);
        due.is("2", x.time(1, true, 2), -1);
        due.is("-2", x.time(1, true, -2), -1);
        due.is("can 128", x.can(1, true, 128), 1);
        due.is("can 127", x.can(1, true, 127), 0);
        due.is("can 384", x.can(1, false, 384), 0);
        due.is("can most", x.can(1, false, Integer.MAX_VALUE), 0);
    }

    /** A flame that is taken away again tells times that can't be told without. */
    private static void outOrNot() {
        UnevenWax x = Due.of("candle 1;candle 4;");
        due.is("out: 4 burns by two till 128, then by one", x.can(3, true, 128 + 1024 - 256), 1);
        due.is("not without", x.can(3, false, 128 + 1024 - 256), 0);
        due.is("one by two, then the other by one", x.can(3, false, 128 + 1024), 1);
        int with = x.time(3, true, -1);
        int without = x.time(3, false, -1);
        due.isTrue("more with out", with > without);
        for (int k = 0; k < without; k++) {
            due.is("told with out, too", x.can(3, true, x.time(3, false, k)), 1);
        }
        due.is("the last is all", x.time(3, false, without - 1), 1280);
    }

    private static void betweenEnds() {
        UnevenWax x = Due.of("candle 60;candle 60;");
        due.is("15 minutes", x.between(3, false, 3840), 1);
        due.is("not told themselves", x.can(3, false, 3840), 0);
        due.is("from 0", x.between(3, false, 11520), 1);
        due.is("by one alone", x.between(1, false, 3840), 0);
        due.is("all", x.between(3, false, 30720), 1);
        due.is("more than all", x.between(3, false, 30721), 0);
        due.is("odd", x.between(3, true, 1), 0);
    }

    private static void leastSets() {
        UnevenWax x = Due.of("candle 10;candle 20;candle 40;candle 7;candle 7;");
        due.is("one candle", x.least(5120, false, 0), 1);
        due.is("the least of like ones", x.least(5120, false, 1), 2);
        due.is("of two like ones", x.least(7 * 256, false, 1), 8);
        due.is("two candles", x.least(30 * 256, false, 0), 2);
        due.is("the first two", x.least(30 * 256, false, 1), 3);
        due.is("three", x.least(70 * 256, false, 0), 3);
        due.is("which three", x.least(70 * 256, false, 1), 7);
        due.is("four", x.least(77 * 256, false, 0), 4);
        due.is("which four", x.least(77 * 256, true, 1), 15);
        due.is("five are too many", x.least(84 * 256, true, 1), -1);
        due.is("none", x.least(1, true, 1), -1);
        due.is("what 2 ahead of the time", x.least(0, true, 2), -2);
        due.is("what -1", x.least(1, true, -1), -2);
        due.is("time 0", x.least(0, true, 1), -3);
        due.is("no candles", new UnevenWax().least(256, true, 0), -1);
    }

    private static void fewestFlames() {
        UnevenWax x = Due.of("candle 60;candle 60;candle 30;");
        due.is("45 minutes", x.fewest(3, false, 11520), 4);
        due.is("an hour", x.fewest(3, false, 15360), 1);
        due.is("half an hour by the short one", x.fewest(5, false, 7680), 1);
        due.is("half an hour", x.fewest(1, false, 7680), 2);
        due.is("an hour and a half", x.fewest(7, false, 90 * 256), 2);
        due.is("can't be", x.fewest(1, false, 11520), -1);
        UnevenWax y = Due.of("candle 1;candle 4;");
        due.is("one flame less is none lit", y.fewest(3, true, 128 + 1024 - 256), 4);
        due.is("two lit, two go on", y.fewest(3, true, 256 + 1024 - 256), 1);
    }

    private static void leastBurnt() {
        UnevenWax x = Due.of("candle 60;candle 60;candle 30;");
        due.is("by the short one alone", x.burnt(7, false, 7680), 7680);
        due.is("without it", x.burnt(3, false, 7680), 15360);
        due.is("45 minutes", x.burnt(3, false, 11520), 30720);
        due.is("45 minutes with the short one", x.burnt(5, false, 11520), 23040);
        due.is("can't be", x.burnt(4, true, 7681), -1);
    }

    private static void firstWays() {
        UnevenWax x = Due.of("candle 60;candle 9;candle 60;");
        due.is("moments", x.given(5, false, 11520, -1), 2);
        due.is("at 0", x.given(5, false, 11520, 0), 12);
        due.is("behind one", x.given(5, false, 11520, 1), 20);
        due.is("behind two", x.given(5, false, 11520, 2), -1);
        due.is("-2", x.given(5, false, 11520, -2), -1);
        due.is("fewer ahead", x.given(7, false, 15360, 0), 1);
        due.is("fewer ahead, moments", x.given(7, false, 15360, -1), 1);
        due.is("one after the other", x.given(7, false, 129 * 256, 0), 1);
        due.is("then the second", x.given(7, false, 129 * 256, 1), 10);
        due.is("then the first", x.given(7, false, 129 * 256, 2), 100);
        due.is("three moments", x.given(7, false, 129 * 256, -1), 3);
        due.is("can't be", x.given(7, false, 17, -1), -1);
        due.is("can't be, k", x.given(7, false, 17, 0), -1);
    }

    private static void lacking() {
        UnevenWax x = Due.of("candle 60;candle 60;");
        due.is("of 15 minutes", x.lacks(3, false, 3840, -1), 3);
        int[] want = {3840, 26880};
        due.is("the first", x.lacks(3, false, 3840, 0), want[0]);
        due.is("the last", x.lacks(3, false, 3840, 2), want[1]);
        due.is("not so many", x.lacks(3, false, 3840, 3), -1);
        due.is("-2", x.lacks(3, false, 3840, -2), -1);
        due.is("a step beyond all", x.lacks(3, false, 30721, -1), 0);
        due.is("the greatest step", x.lacks(3, false, Integer.MAX_VALUE, -1), 0);
        due.is("all of them", x.lacks(3, false, 30720, -1), 0);
        due.is("the least step", x.lacks(1, false, 64, -1), 238);
        due.is("the least step, the last", x.lacks(1, false, 64, 237), 15296);
        due.is("step 63", x.lacks(1, false, 63, -1), -3);
        due.is("step -64", x.lacks(1, false, -64, -1), -3);
    }

    private static void togetherTold() {
        UnevenWax x = Due.of("candle 60;candle 60;candle 15;");
        Due.row(x, 0, 3, 11520, 7680, 7680);
        due.is("in any order, more than once", x.together(3, false, 0), 1);
        due.is("by which", x.leastFor(0, false), 3);
        due.is("by one", x.together(1, false, 0), 0);
        Due.row(x, 0, 3, 7680, 15360);
        due.is("both by one candle at another time", x.together(1, true, 0), 0);
        due.is("by two", x.leastFor(0, true), 3);
        Due.row(x, 0, 3, 3840, 7680);
        due.is("the short one, then another", x.leastFor(0, false), 5);
        Due.row(x, 0, 3, 0);
        due.is("0 is no moment", x.together(7, true, 0), 0);
        Due.row(x, 0, 3, 7680, -1);
        due.is("below 0", x.leastFor(0, true), -1);
        Due.row(x, 0, 3, 7680L + (1L << 32));
        due.is("64 bits", x.together(7, true, 0), 0);
        Due.row(x, 0, 3, 1920, 3840, 7680, 11520, 15360);
        due.is("five times", x.leastFor(0, true), -1);
        Due.row(x, 0, 3);
        due.is("nothing", x.together(4, true, 0), 1);
        due.is("nothing, by", x.leastFor(0, true), 1);
        UnevenWax y = new UnevenWax();
        y.numbers(0, 0, 0);
        due.is("nothing, by no candles", y.leastFor(0, true), -1);
    }

    private static void nearestTimes() {
        UnevenWax x = Due.of("candle 60;candle 1;");
        due.is("itself", x.nearest(1, false, 7680), 7680);
        due.is("below all", x.nearest(1, false, 1), 7680);
        due.is("beyond all", x.nearest(1, true, Integer.MAX_VALUE), 15360);
        due.is("the lesser of like ones", x.nearest(1, false, 11520), 7680);
        due.is("just above", x.nearest(1, false, 11521), 15360);
        due.is("just below", x.nearest(1, false, 11519), 7680);
        due.is("a short one", x.nearest(2, false, 192), 128);
        due.is("a short one", x.nearest(2, false, 193), 256);
    }

    private static void newCellars() {
        UnevenWax x = Due.of("candle 60;candle 60;");
        due.is("told", x.time(3, true, 0), 7680);
        due.is("told, keeping", x.time(3, false, 0), 7680);
        Due.cellar(x, "candle 10;candle 20;");
        due.is("told by the new cellar", x.time(3, true, 0), 1280);
        due.is("told by it, keeping", x.time(3, false, 0), 1280);
        due.is("can", x.can(3, false, 7680), 1);
        due.is("can", x.can(3, false, 15360), 0);
    }

    private static void greatCandles() {
        UnevenWax x = Due.of("candle 60 60 60 60 60 60;".repeat(8));
        int n = x.time(0xf0, true, -1);
        due.is("the last", x.time(0xf0, true, n - 1), 4 * 92160);
        due.is("the last, keeping", x.time(15, false, x.time(15, false, -1) - 1), 4 * 92160);
        due.is("can", x.can(15, false, 4 * 92160), 1);
        due.is("nearest", x.nearest(15, false, Integer.MAX_VALUE), 4 * 92160);
        due.is("nearest", x.nearest(15, false, 4 * 92160 + 1), 4 * 92160);
        due.is("least", x.least(4 * 92160, true, 1), 15);
        due.is("least", x.least(4 * 92160 + 16, true, 1), -1);
        due.is("fewest", x.fewest(0xf0, true, 4 * 92160), 4);
        due.is("burnt", x.burnt(0xaa, false, 4 * 92160), 4 * 92160);
        Due.row(x, 0, 3, 92160, 2 * 92160, 3 * 92160, 4 * 92160);
        due.is("together", x.together(0xf0, false, 0), 1);
        due.is("together, by", x.leastFor(0, false), 15);
        Due.row(x, 0, 3, 92160, 2 * 92160, 3 * 92160, 4 * 92160, 5 * 92160);
        due.is("five are too many", x.leastFor(0, false), -1);
        due.is("five are too many", x.together(15, false, 0), 0);
        Due.row(x, 0, 3, 92160, 2 * 92160, 3 * 92160, 4 * 92160 + 1);
        due.is("one spark off", x.leastFor(0, true), -1);
        due.is("1 can't be told", x.fewest(1, true, 1), -1);
        due.is("1 can't be told", x.burnt(1, true, 1), -1);
        due.is("1 can't be told", x.given(1, true, 1, -1), -1);
        due.is("1 is nearest to", x.nearest(1, true, 1), 46080);
    }

    private static void wrongInputs() {
        UnevenWax x = Due.of("candle 1;candle 2;candle 3;candle 4;candle 5;");
        x.numbers(0, 0, 1);
        int[] sets = {0, -1, 31, 32, 33, Integer.MIN_VALUE, Integer.MAX_VALUE};
        for (int set : sets) {
            due.is("can " + set, x.can(set, true, 256), -3);
            due.is("time " + set, x.time(set, true, -1), -3);
            due.is("between " + set, x.between(set, true, 256), -3);
            due.is("fewest " + set, x.fewest(set, true, 256), -3);
            due.is("burnt " + set, x.burnt(set, true, 256), -3);
            due.is("given " + set, x.given(set, true, 256, 0), -3);
            due.is("lacks " + set, x.lacks(set, true, 256, 0), -3);
            due.is("together " + set, x.together(set, true, 0), -3);
            due.is("together, missing, " + set, x.together(set, true, 1), -6);
            due.is("together, no row, " + set, x.together(set, true, 4), -2);
            due.is("nearest " + set, x.nearest(set, true, 256), -3);
        }
        int[] times = {0, -1, Integer.MIN_VALUE};
        for (int time : times) {
            due.is("can at " + time, x.can(1, true, time), -3);
            due.is("between " + time, x.between(1, true, time), -3);
            due.is("fewest at " + time, x.fewest(1, true, time), -3);
            due.is("burnt at " + time, x.burnt(1, true, time), -3);
            due.is("given at " + time, x.given(1, true, time, 0), -3);
            due.is("nearest to " + time, x.nearest(1, true, time), -3);
        }
        due.is("leastFor(-1)", x.leastFor(-1, true), -2);
        due.is("leastFor(4)", x.leastFor(4, true), -2);
        due.is("leastFor(1)", x.leastFor(1, true), -6);
        due.is("four of five", x.can(30, true, 256 * 14), 1);
    }
}
