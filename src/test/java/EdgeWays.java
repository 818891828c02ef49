/** Sentences about ways of sets of candles, and promises 24 to 34. */
final class EdgeWays {
    /** Sets that can't be where there are candles 0 to 4. */
    private static final int[] NO_SETS = {0, -1, 31, 32, 33, 64, 256, 1 << 30, Integer.MIN_VALUE, Integer.MAX_VALUE};
    private static final int[] NO_TIMES = {0, -1, -256, Integer.MIN_VALUE};
    private static final String GREAT = "candle 60 60 60 60 60 60;";

    private final Edge edge;

    EdgeWays(Edge edge) {
        this.edge = edge;
    }

    void all() {
        sets();
        givenAnew();
        outIsSo();
        outIsNot();
        atLeastOneBurns();
        moments();
        tellable();
        lyingBetween();
        leastSet();
        fewestFlames();
        leastBurnt();
        firstWay();
        toldTogether();
        lackingSteps();
        can();
        canRefused();
        time();
        timeNone();
        between();
        betweenRefused();
        least();
        leastRefused();
        fewest();
        burnt();
        given();
        givenNone();
        lacks();
        lacksRefused();
        together();
        togetherRefused();
        leastFor();
        leastForRefused();
        nearest();
        nearestRefused();
    }

    private static UnevenWax five() {
        UnevenWax x = Due.of("candle 1;candle 2;candle 3;candle 4;candle 5;");
        x.numbers(0, 2, 1);
        x.write(0, 0, 256);
        return x;
    }

    private void sets() {
        edge.of("WAYS of a set of CANDLES (1 to 4 of those there are):");
        UnevenWax x = five();
        edge.is("one", x.can(16, false, 5 * 256), 1);
        edge.is("four", x.can(30, false, 14 * 256), 1);
        edge.is("five", x.can(31, false, 256), -3);
        edge.is("none", x.can(0, false, 256), -3);
        edge.is("one that isn't there", x.can(32, false, 256), -3);
        edge.is("one of two that isn't there", x.can(33, false, 256), -3);
        UnevenWax y = Due.of(GREAT.repeat(8));
        edge.is("the last of eight", y.can(128, false, 92160), 1);
        edge.is("the last four", y.can(240, true, 4 * 92160), 1);
        edge.is("a ninth", y.can(256, true, 92160), -3);
        edge.is("a ninth of two", y.can(257, true, 92160), -3);
        edge.is("five of eight", y.can(248, true, 92160), -3);
        edge.is("all eight", y.can(255, true, 92160), -3);
        edge.is("without candles", new UnevenWax().can(1, true, 256), -3);
    }

    private void givenAnew() {
        edge.of("at time 0, and whenever some end, each of the set that has not ended is given FLAMES anew:");
        UnevenWax x = Due.of("candle 60;candle 60;");
        edge.is("at time 0", x.can(3, false, 7680), 1);
        edge.is("as the first ends", x.can(3, false, 11520), 1);
        edge.is("at no other time", x.can(3, false, 3840), 0);
        edge.is("at no other time", x.can(3, true, 13440), 0);
        edge.is("five times in all", x.time(3, true, -1), 5);
        UnevenWax y = Due.of("candle 2;candle 2;candle 2;candle 2;");
        edge.is("as the third ends", y.can(15, false, 4 * 512), 1);
        edge.is("halved four times", y.can(15, false, 480), 1);
        edge.is("not five times", y.can(15, false, 496), 0);
    }

    private void outIsSo() {
        edge.of("0, 1 or 2, if out is so;");
        UnevenWax x = Due.of("candle 1;candle 4;");
        edge.is("two, then one", x.can(3, true, 896), 1);
        UnevenWax y = Due.of("candle 3;candle 50;candle 7;");
        edge.is("two, then none, then one: 51.25 minutes", y.can(7, true, 13120), 1);
        edge.is("one, then none, then two: 31.25 minutes", y.can(7, true, 8000), 1);
        edge.is("one, then none, then one: 52.75 minutes", y.can(7, true, 13504), 1);
    }

    private void outIsNot() {
        edge.of("else not fewer than it has;");
        UnevenWax x = Due.of("candle 1;candle 4;");
        edge.is("not two, then one", x.can(3, false, 896), 0);
        edge.is("one, then two", x.can(3, false, 640), 1);
        edge.is("one, then one", x.can(3, false, 1024), 1);
        edge.is("none, then one", x.can(3, false, 1280), 1);
        UnevenWax y = Due.of("candle 3;candle 50;candle 7;");
        edge.is("not two, then none", y.can(7, false, 13120), 0);
        edge.is("not one, then none", y.can(7, false, 8000), 0);
        edge.is("nor for another", y.can(7, false, 13504), 0);
    }

    private void atLeastOneBurns() {
        edge.of("at least one burns (or the WAY is over).");
        UnevenWax x = Due.of("candle 1;candle 4;");
        edge.is("one may be left whole", x.given(3, false, 1024, 0), 1);
        edge.is("till the other's end", x.given(3, false, 1024, -1), 1);
        edge.is("then it may burn", x.given(3, false, 1280, 1), 10);
        edge.is("nothing is told while none burns", x.nearest(3, true, Integer.MAX_VALUE), 1280);
        edge.is("nor at 0", x.time(3, true, 0), 128);
    }

    private void moments() {
        edge.of("MOMENTS of a WAY are the times at which some end.");
        UnevenWax x = Due.of("candle 1;candle 4;");
        int[] want = {128, 256, 512, 576, 640, 768, 1024, 1152, 1280};
        edge.is("how many", x.time(3, false, -1), want.length);
        for (int k = 0; k < want.length; k++) {
            edge.is("moment " + k, x.time(3, false, k), want[k]);
        }
        edge.is("two at once are one", Due.of("candle 1;candle 1;").given(3, false, 128, -1), 1);
    }

    private void tellable() {
        edge.of("TELLABLE by a set are all MOMENTS of all its WAYS.");
        UnevenWax x = Due.of("candle 10;candle 25;candle 1;");
        double[] minutes = {5, 10, 12.5, 15, 17.5, 22.5, 25, 30, 35};
        edge.is("how many", x.time(3, false, -1), 9);
        for (int k = 0; k < 9; k++) {
            edge.is("time " + k, x.time(3, false, k), (int) (minutes[k] * 256));
            edge.is("can " + k, x.can(3, false, (int) (minutes[k] * 256)), 1);
            edge.is("with out, too", x.can(3, true, (int) (minutes[k] * 256)), 1);
        }
        edge.is("one more with out", x.time(3, true, -1), 10);
        edge.is("20 minutes", x.can(3, true, 20 * 256), 1);
        edge.is("not without", x.can(3, false, 20 * 256), 0);
        UnevenWax y = Due.of(GREAT.repeat(4));
        edge.is("the latest of all", y.can(15, true, 4 * 92160), 1);
        edge.is("the finest of all", y.can(15, true, 92160 - 92160 / 16), 1);
    }

    private void lyingBetween() {
        edge.of("BETWEEN: what lies between two MOMENTS of one WAY, or 0 and a MOMENT.");
        UnevenWax x = Due.of("candle 1;candle 4;");
        edge.is("between two", x.between(3, false, 384), 1);
        edge.is("between two", x.between(3, false, 448), 1);
        edge.is("is no moment itself", x.can(3, true, 384), 0);
        edge.is("between two, without out", x.between(3, false, 896), 1);
        edge.is("from 0", x.between(3, false, 1280), 1);
        edge.is("from 0, the least", x.between(3, false, 128), 1);
        edge.is("moments of two ways", x.between(3, true, 64), 0);
        UnevenWax y = Due.of("candle 1;candle 2;candle 4;candle 8;");
        edge.is("the second and the fourth of four", y.between(15, false, (4 + 8) * 256), 1);
        edge.is("the second and the third of four", y.between(15, false, 4 * 256), 1);
        edge.is("all", y.between(15, false, 15 * 256), 1);
        edge.is("more than all", y.between(15, true, 15 * 256 + 16), 0);
    }

    private void leastSet() {
        edge.of("LEAST for a time: of all sets by which it is TELLABLE that of the fewest CANDLES, of like ones the least as bits.");
        UnevenWax x = Due.of("candle 9;candle 3;candle 5;candle 4;candle 4;");
        edge.is("one candle", x.least(9 * 256, false, 1), 1);
        edge.is("the lesser of two like ones", x.least(4 * 256, false, 1), 8);
        edge.is("one is fewer than two of less bits", x.least(5 * 256, false, 1), 4);
        edge.is("two candles", x.least(8 * 256, false, 0), 2);
        edge.is("the least of two pairs", x.least(8 * 256, false, 1), 2 + 4);
        edge.is("three", x.least(17 * 256, false, 1), 1 + 2 + 4);
        edge.is("four", x.least(21 * 256, false, 1), 15);
        edge.is("four, how many", x.least(21 * 256, false, 0), 4);
        edge.is("four of five, the most", x.least(22 * 256, false, 1), 1 + 4 + 8 + 16);
        edge.is("more than any four", x.least(23 * 256, true, 1), -1);
        edge.is("all five are too many", x.least(25 * 256, true, 1), -1);
        UnevenWax y = Due.of("candle 60;".repeat(7) + "candle 1;");
        edge.is("the last of eight", y.least(128, false, 1), 128);
        edge.is("with the first", y.least(61 * 256, false, 1), 129);
    }

    private void fewestFlames() {
        edge.of("FEWEST FLAMES: over all WAYS with that MOMENT the least number of FLAMES that were lit till then (each FLAME more than there was one, as FLAMES are given anew).");
        UnevenWax x = Due.of("candle 60;candle 60;candle 30;");
        edge.is("45 minutes by two", x.fewest(3, false, 11520), 4);
        edge.is("45 minutes by three", x.fewest(7, false, 11520), 3);
        edge.is("one", x.fewest(7, false, 15360), 1);
        edge.is("two", x.fewest(3, false, 7680), 2);
        edge.is("one after the other", x.fewest(7, true, 150 * 256), 3);
        UnevenWax y = Due.of("candle 1;candle 4;");
        edge.is("two and two, then one fewer", y.fewest(3, true, 896), 4);
        edge.is("what goes on is not lit again", y.fewest(3, false, 640), 3);
        UnevenWax z = Due.of("candle 3;candle 50;candle 7;");
        edge.is("put out and lit again", z.fewest(7, true, 13120), 7);
        edge.is("it isn't TELLABLE", z.fewest(7, false, 13120), -1);
    }

    private void leastBurnt() {
        edge.of("LEAST BURNT: likewise the least sum, over CANDLES of the set, of what burnt of their RESTS till then.");
        UnevenWax x = Due.of("candle 60;candle 60;candle 30;");
        edge.is("45 minutes by two", x.burnt(3, false, 11520), 120 * 256);
        edge.is("45 minutes by three", x.burnt(7, false, 11520), 90 * 256);
        edge.is("half an hour by the short one", x.burnt(7, false, 7680), 7680);
        edge.is("half an hour by two flames", x.burnt(3, false, 7680), 15360);
        edge.is("all", x.burnt(7, true, 150 * 256), 150 * 256);
        UnevenWax y = Due.of("candle 1;candle 4;");
        edge.is("the least", y.burnt(1, false, 128), 256);
        edge.is("not all of the second", y.burnt(3, false, 256), 256);
        edge.is("one flame less burns less", y.burnt(3, true, 896), 1280);
        edge.is("the most", Due.of(GREAT.repeat(4)).burnt(15, false, 4 * 92160), 4 * 92160);
    }

    private void firstWay() {
        edge.of("THE FIRST WAY to a time: of WAYS with that MOMENT that in which what is given at time 0, then at the next MOMENT .., each time to CANDLES by numbers, is first (fewer FLAMES ahead).");
        UnevenWax x = Due.of("candle 60;candle 60;candle 30;");
        edge.is("by the last candle if it can be", x.given(7, false, 11520, 0), 2);
        edge.is("then by the one before it", x.given(7, false, 11520, 1), 20);
        edge.is("two moments", x.given(7, false, 11520, -1), 2);
        edge.is("half an hour by one flame of the last", x.given(7, false, 7680, 0), 1);
        UnevenWax y = Due.of("candle 1;candle 2;candle 3;candle 4;");
        int[] want = {1, 10, 100, 1000};
        for (int k = 0; k < 4; k++) {
            edge.is("one after the other, " + k, y.given(15, true, 2560, k), want[k]);
        }
        edge.is("the least candle at last", y.given(15, true, 128, 0), 2000);
        UnevenWax z = Due.of("candle 3;candle 50;candle 7;");
        int[] dimmed = {221, 2, 10};
        for (int k = 0; k < 3; k++) {
            edge.is("put out and lit again, " + k, z.given(7, true, 13120, k), dimmed[k]);
        }
    }

    private void toldTogether() {
        edge.of("TOGETHER told: a ROW's times that all are MOMENTS of one WAY.");
        UnevenWax x = Due.of("candle 60;candle 60;candle 30;");
        Due.row(x, 0, 2, 7680, 11520);
        edge.is("of one way", x.together(3, false, 0), 1);
        Due.row(x, 0, 2, 11520, 15360);
        edge.is("of two ways", x.together(3, false, 0), 0);
        edge.is("each by itself can be", x.can(3, false, 11520) + x.can(3, false, 15360), 2);
        Due.row(x, 0, 2, 7680, 15360, 30720);
        edge.is("30, 60 and 120 minutes by three", x.together(7, false, 0), 1);
        Due.row(x, 0, 2, 3840, 150 * 256);
        edge.is("150 minutes leave no second flame for 15", x.together(7, true, 0), 0);
        edge.is("each by itself can be", x.can(7, true, 3840) + x.can(7, true, 150 * 256), 2);
        Due.row(x, 0, 2, 7680, 22 * 1024 + 512, 37 * 1024 + 512);
        edge.is("30, 90 and 150 minutes by three", x.together(7, false, 0), 1);
        edge.is("30, 90 and 150 minutes by two", x.together(3, false, 0), 0);
        Due.row(x, 0, 2, 0, 7680);
        edge.is("0 is no moment", x.together(7, true, 0), 0);
        UnevenWax z = five();
        Due.row(z, 0, 2, 128, 256, 384, 512);
        edge.is("all four by two flames", z.together(15, false, 0), 1);
        Due.row(z, 0, 2, 256, 512, 768, 1024);
        edge.is("all four by one flame", z.together(15, false, 0), 1);
        UnevenWax y = Due.of("candle 3;candle 50;candle 7;");
        Due.row(y, 0, 2, 384, 1088, 13120);
        edge.is("put out and lit again", y.together(7, true, 0), 1);
        edge.is("not without", y.together(7, false, 0), 0);
    }

    private void lackingSteps() {
        edge.of("LACKS of a step: its multiples (1 time, 2 ..), up to all RESTS of the set together, that are not TELLABLE.");
        UnevenWax x = Due.of("candle 1;candle 4;");
        // Of multiples of 128 up to 1280 told are 1, 2, 4, 5, 6, 8, 9 and 10.
        edge.is("how many", x.lacks(3, false, 128, -1), 2);
        edge.is("3 times", x.lacks(3, false, 128, 0), 384);
        edge.is("7 times", x.lacks(3, false, 128, 1), 896);
        edge.is("with out one fewer", x.lacks(3, true, 128, -1), 1);
        edge.is("1 time", x.lacks(3, false, 384, 0), 384);
        edge.is("all RESTS are told", x.lacks(3, false, 1280, -1), 0);
        edge.is("just above them", x.lacks(3, false, 1281, -1), 0);
        edge.is("just below them", x.lacks(3, false, 1279, 0), 1279);
        edge.is("half of them is told", x.lacks(3, false, 640, -1), 0);
        UnevenWax y = Due.of(GREAT.repeat(4));
        edge.is("the finest step, the last", y.lacks(15, false, 64, y.lacks(15, false, 64, -1) - 1), 4 * 92160 - 64);
    }

    private void can() {
        edge.of("Whether a time is TELLABLE by a set, with out or without: 1, 0.");
        UnevenWax x = Due.of("candle 1;candle 4;");
        edge.is("without", x.can(3, false, 1280), 1);
        edge.is("a spark less", x.can(3, false, 1279), 0);
        edge.is("a spark more", x.can(3, true, 1281), 0);
        edge.is("with out alone", x.can(3, true, 896) * 10 + x.can(3, false, 896), 10);
        edge.is("the least time", x.can(3, true, 1), 0);
        edge.is("the most", x.can(3, true, Integer.MAX_VALUE), 0);
        edge.is("asked again, behind all were told", x.time(3, true, -1) * 100 + x.can(3, true, 896) * 10 + x.can(3, true, 895), 1010);
        edge.is("the most, behind all were told", x.can(3, true, Integer.MAX_VALUE), 0);
        edge.is("the least, behind all were told", x.can(3, true, 1), 0);
    }

    private void canRefused() {
        edge.of("with out or without: 1, 0. -3: the set; the time is below 1.");
        UnevenWax x = five();
        for (int set : NO_SETS) {
            edge.is("set " + set, x.can(set, false, 256), -3);
        }
        for (int time : NO_TIMES) {
            edge.is("time " + time, x.can(1, true, time), -3);
        }
    }

    private void time() {
        edge.of("The k-th of all TELLABLE times of a set, the least first; k NONE: how many.");
        UnevenWax x = Due.of("candle 1;candle 60 60 60 60 60 60;");
        edge.is("the least", x.time(1, false, 0), 128);
        edge.is("the last", x.time(1, false, 1), 256);
        edge.is("how many", x.time(1, false, -1), 2);
        edge.is("of the other", x.time(2, true, 1), 92160);
        edge.is("of both the least", x.time(3, true, 0), 128);
        edge.is("of both the last", x.time(3, true, x.time(3, true, -1) - 1), 92416);
        edge.is("of the first again", x.time(1, true, 1), 256);
    }

    private void timeNone() {
        edge.of("k NONE: how many. NONE: not so many; -3: the set.");
        UnevenWax x = five();
        int[] none = {2, 64, 65, -2, Integer.MIN_VALUE, Integer.MAX_VALUE};
        for (int k : none) {
            edge.is("time(1, false, " + k + ")", x.time(1, false, k), -1);
        }
        for (int set : NO_SETS) {
            edge.is("set " + set, x.time(set, false, 0), -3);
            edge.is("set " + set + ", how many", x.time(set, true, -1), -3);
        }
    }

    private void between() {
        edge.of("Whether a time is BETWEEN by a set: 1, 0.");
        UnevenWax x = Due.of("candle 60;candle 60;");
        edge.is("a quarter", x.between(3, false, 3840), 1);
        edge.is("a spark more", x.between(3, true, 3841), 0);
        edge.is("by one", x.between(2, true, 3840), 0);
        edge.is("the least", x.between(3, true, 1), 0);
        edge.is("the most", x.between(3, true, Integer.MAX_VALUE), 0);
        edge.is("with out alone", Due.of("candle 1;candle 4;candle 2;").between(7, false, 896), 1);
    }

    private void betweenRefused() {
        edge.of("Whether a time is BETWEEN by a set: 1, 0. -3: the set; the time is below 1.");
        UnevenWax x = five();
        for (int set : NO_SETS) {
            edge.is("set " + set, x.between(set, false, 256), -3);
        }
        for (int time : NO_TIMES) {
            edge.is("time " + time, x.between(1, true, time), -3);
        }
    }

    private void least() {
        edge.of("LEAST, what 0: how many CANDLES, 1: which (bits). NONE: by none;");
        UnevenWax x = five();
        edge.is("one", x.least(5 * 256, false, 0), 1);
        edge.is("which", x.least(5 * 256, false, 1), 16);
        edge.is("four", x.least(14 * 256, false, 0), 4);
        edge.is("which four", x.least(14 * 256, false, 1), 30);
        edge.is("with out alone", Due.of("candle 1;candle 4;").least(896, true, 1), 3);
        edge.is("not without", Due.of("candle 1;candle 4;").least(896, false, 1), -1);
        edge.is("none, how many", x.least(15 * 256, true, 0), -1);
        edge.is("none, which", x.least(1, true, 1), -1);
        edge.is("the most", x.least(Integer.MAX_VALUE, true, 1), -1);
        edge.is("without candles", new UnevenWax().least(256, false, 0), -1);
    }

    private void leastRefused() {
        edge.of("NONE: by none; -2: what; -3: the time is below 1.");
        UnevenWax x = five();
        int[] whats = {-1, 2, Integer.MIN_VALUE, Integer.MAX_VALUE};
        for (int what : whats) {
            edge.is("what " + what, x.least(256, false, what), -2);
            edge.is("what " + what + " is told first", x.least(0, false, what), -2);
        }
        for (int time : NO_TIMES) {
            edge.is("time " + time, x.least(time, true, 0), -3);
            edge.is("time " + time + ", which", x.least(time, false, 1), -3);
        }
        edge.is("without candles", new UnevenWax().least(0, false, 0), -3);
    }

    private void fewest() {
        edge.of("FEWEST FLAMES. NONE: it isn't TELLABLE; -3: the set; the time is below 1.");
        UnevenWax x = five();
        edge.is("one", x.fewest(1, false, 256), 1);
        edge.is("two", x.fewest(1, true, 128), 2);
        edge.is("never", x.fewest(1, false, 257), -1);
        edge.is("the least", x.fewest(15, true, 1), -1);
        edge.is("the most", x.fewest(15, true, Integer.MAX_VALUE), -1);
        for (int set : NO_SETS) {
            edge.is("set " + set, x.fewest(set, false, 256), -3);
        }
        for (int time : NO_TIMES) {
            edge.is("time " + time, x.fewest(1, true, time), -3);
        }
    }

    private void burnt() {
        edge.of("LEAST BURNT, in SPARKS. NONE: it isn't TELLABLE; -3: the set; the time is below 1.");
        UnevenWax x = five();
        edge.is("all of it", x.burnt(1, false, 128), 256);
        edge.is("never", x.burnt(1, false, 129), -1);
        edge.is("the least", x.burnt(15, true, 1), -1);
        edge.is("the most", x.burnt(15, true, Integer.MAX_VALUE), -1);
        for (int set : NO_SETS) {
            edge.is("set " + set, x.burnt(set, false, 256), -3);
        }
        for (int time : NO_TIMES) {
            edge.is("time " + time, x.burnt(1, true, time), -3);
        }
    }

    private void given() {
        edge.of("THE FIRST WAY to a time, k NONE: how many MOMENTS it has till then (that one, too), k: FLAMES as given behind k MOMENTS (0: at time 0), as digits (the least CANDLE of the set the highest).");
        UnevenWax x = five();
        edge.is("one moment", x.given(16, false, 1280, -1), 1);
        edge.is("one digit", x.given(16, false, 1280, 0), 1);
        edge.is("one digit, two", x.given(16, false, 640, 0), 2);
        edge.is("four moments", x.given(30, false, 14 * 256, -1), 4);
        int[] want = {1, 10, 100, 1000};
        for (int k = 0; k < 4; k++) {
            edge.is("behind " + k, x.given(30, false, 14 * 256, k), want[k]);
        }
        edge.is("the least of the set is the highest", x.given(17, false, 128, 0), 20);
        edge.is("the greatest of the set is the lowest", x.given(17, false, 640, 0), 2);
    }

    private void givenNone() {
        edge.of("NONE: it isn't TELLABLE, not so many; -3: the set; the time is below 1.");
        UnevenWax x = five();
        edge.is("it isn't, how many", x.given(30, true, 15 * 256, -1), -1);
        edge.is("it isn't, at 0", x.given(30, true, 15 * 256, 0), -1);
        int[] none = {4, 5, -2, Integer.MIN_VALUE, Integer.MAX_VALUE};
        for (int k : none) {
            edge.is("not so many: " + k, x.given(30, false, 14 * 256, k), -1);
        }
        edge.is("not so many: 1 of 1", x.given(16, false, 1280, 1), -1);
        edge.is("the least time", x.given(16, false, 1, -1), -1);
        edge.is("the most", x.given(16, false, Integer.MAX_VALUE, -1), -1);
        for (int set : NO_SETS) {
            edge.is("set " + set, x.given(set, false, 256, 0), -3);
        }
        for (int time : NO_TIMES) {
            edge.is("time " + time, x.given(1, true, time, -1), -3);
        }
    }

    private void lacks() {
        edge.of("The k-th LACK of a step (SPARKS), k NONE: how many. NONE: not so many;");
        UnevenWax x = five();
        edge.is("the first", x.lacks(1, false, 64, 0), 64);
        edge.is("the second", x.lacks(1, false, 64, 1), 192);
        edge.is("how many", x.lacks(1, false, 64, -1), 2);
        int[] none = {2, -2, Integer.MIN_VALUE, Integer.MAX_VALUE};
        for (int k : none) {
            edge.is("not so many: " + k, x.lacks(1, false, 64, k), -1);
        }
        edge.is("none, how many", x.lacks(1, false, 128, -1), 0);
        edge.is("none, the first", x.lacks(1, false, 128, 0), -1);
    }

    private void lacksRefused() {
        edge.of("NONE: not so many; -3: the set; the step is below 64.");
        UnevenWax x = five();
        for (int set : NO_SETS) {
            edge.is("set " + set, x.lacks(set, false, 64, 0), -3);
        }
        int[] steps = {63, 1, 0, -1, -64, Integer.MIN_VALUE};
        for (int step : steps) {
            edge.is("step " + step, x.lacks(1, true, step, -1), -3);
        }
        edge.is("step 64", x.lacks(1, true, 64, -1), 2);
        edge.is("the greatest step", x.lacks(1, true, Integer.MAX_VALUE, -1), 0);
    }

    private void together() {
        edge.of("Whether all times in a ROW are TOGETHER told by a set: 1, 0.");
        UnevenWax x = five();
        Due.row(x, 0, 2, 256, 768, 1536, 2560);
        edge.is("four by four", x.together(15, false, 0), 1);
        edge.is("four by three", x.together(7, false, 0), 0);
        Due.row(x, 0, 2, 2560, 256, 1536, 768, 256, 2560);
        edge.is("in any order, again and again", x.together(15, false, 0), 1);
        Due.row(x, 0, 2, 256, 768, 1536, 2560, 2561);
        edge.is("one more", x.together(15, true, 0), 0);
        Due.row(x, 0, 2);
        edge.is("no times", x.together(1, false, 0), 1);
        Due.row(x, 0, 3, 256 + (1L << 32));
        edge.is("a time of 33 bits", x.together(1, true, 0), 0);
        Due.row(x, 0, 3, Long.MIN_VALUE);
        edge.is("the least number", x.together(1, true, 0), 0);
        Due.row(x, 0, 3, Long.MAX_VALUE);
        edge.is("the greatest number", x.together(1, true, 0), 0);
        long[] forty = new long[40];
        java.util.Arrays.fill(forty, 256);
        Due.row(x, 0, 2, forty);
        edge.is("forty times the same", x.together(1, true, 0), 1);
        forty[39] = 128;
        Due.row(x, 0, 2, forty);
        edge.is("the last is another", x.together(1, true, 0), 0);
    }

    private void togetherRefused() {
        edge.of("TOGETHER told by a set: 1, 0. -2: the ROW; -6; -3: the set.");
        UnevenWax x = five();
        int[] rows = {-1, 4, Integer.MIN_VALUE, Integer.MAX_VALUE};
        for (int row : rows) {
            edge.is("row " + row, x.together(1, false, row), -2);
            edge.is("row " + row + " is told first", x.together(0, false, row), -2);
        }
        for (int row = 1; row < 4; row++) {
            edge.is("row " + row + " is missing", x.together(1, false, row), -6);
            edge.is("row " + row + " is told first", x.together(0, false, row), -6);
        }
        for (int set : NO_SETS) {
            edge.is("set " + set, x.together(set, false, 0), -3);
        }
        x.numbers(3, 0, 0);
        edge.is("a set for no times", x.together(0, false, 3), -3);
    }

    private void leastFor() {
        edge.of("Of all sets by which a ROW's times are TOGETHER told that of the fewest CANDLES, of like ones the least as bits. NONE: by none;");
        UnevenWax x = Due.of("candle 60;candle 5;candle 9;candle 5;candle 60;");
        Due.row(x, 0, 2, 5 * 256);
        edge.is("the lesser of like ones", x.leastFor(0, false), 2);
        Due.row(x, 0, 2, 5 * 256, 10 * 256);
        edge.is("two candles", x.leastFor(0, false), 2 + 8);
        Due.row(x, 0, 2, 30 * 256, 60 * 256);
        edge.is("30 and 60 minutes by two", x.leastFor(0, false), 17);
        Due.row(x, 0, 2, 5 * 256, 10 * 256, 19 * 256, 79 * 256);
        edge.is("four candles", x.leastFor(0, true), 15);
        Due.row(x, 0, 2, 5 * 256, 10 * 256, 19 * 256, 79 * 256, 139 * 256);
        edge.is("five", x.leastFor(0, true), -1);
        Due.row(x, 0, 2, 1);
        edge.is("none", x.leastFor(0, true), -1);
        Due.row(x, 0, 2);
        edge.is("no times", x.leastFor(0, true), 1);
        UnevenWax y = new UnevenWax();
        y.numbers(0, 0, 0);
        edge.is("no times, without candles", y.leastFor(0, true), -1);
    }

    private void leastForRefused() {
        edge.of("NONE: by none; -2: the ROW; -6.");
        UnevenWax x = five();
        int[] rows = {-1, 4, Integer.MIN_VALUE, Integer.MAX_VALUE};
        for (int row : rows) {
            edge.is("row " + row, x.leastFor(row, false), -2);
        }
        for (int row = 1; row < 4; row++) {
            edge.is("row " + row + " is missing", x.leastFor(row, false), -6);
        }
        edge.is("without candles", new UnevenWax().leastFor(0, false), -6);
    }

    private void nearest() {
        edge.of("The TELLABLE time nearest to a time, the lesser of like ones.");
        UnevenWax x = Due.of("candle 1;candle 60;candle 4;");
        edge.is("itself", x.nearest(1, false, 128), 128);
        edge.is("like ones", x.nearest(1, false, 192), 128);
        edge.is("a spark more", x.nearest(1, false, 193), 256);
        edge.is("below all", x.nearest(2, false, 1), 7680);
        edge.is("above all", x.nearest(2, false, 15361), 15360);
        edge.is("the most", x.nearest(2, true, Integer.MAX_VALUE), 15360);
        edge.is("far from each other, like ones", x.nearest(2, true, 11520), 7680);
        edge.is("far from each other, a spark more", x.nearest(2, true, 11521), 15360);
        edge.is("far from each other, a spark less", x.nearest(2, true, 11519), 7680);
        edge.is("with out", x.nearest(5, true, 900), 896);
        edge.is("without", x.nearest(5, false, 896), 768);
        UnevenWax y = Due.of(GREAT.repeat(4));
        edge.is("the latest", y.nearest(15, true, 4 * 92160), 4 * 92160);
        edge.is("just above it", y.nearest(15, true, 4 * 92160 + 1), 4 * 92160);
    }

    private void nearestRefused() {
        edge.of("NONE: there is none; -3: the set; the time is below 1.");
        UnevenWax x = five();
        for (int set : NO_SETS) {
            edge.is("set " + set, x.nearest(set, false, 256), -3);
        }
        for (int time : NO_TIMES) {
            edge.is("time " + time, x.nearest(1, true, time), -3);
        }
        edge.is("time 1", x.nearest(1, true, 1), 128);
        edge.is("without candles there is no set", new UnevenWax().nearest(1, true, 1), -3);
    }
}
