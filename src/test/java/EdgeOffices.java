/** Sentences about offices, logs and thieves, and promises 37 to 42. */
final class EdgeOffices {
    private static final int[] NONE_SUCH = {-1, 4, Integer.MIN_VALUE, Integer.MAX_VALUE};
    private static final long FAR = Long.MAX_VALUE;

    private final Edge edge;
    private UnevenWax x;

    EdgeOffices(Edge edge) {
        this.edge = edge;
    }

    void all() {
        servedOffices();
        mayBe();
        missedBells();
        near();
        stolenEnds();
        serves();
        servesRefused();
        fittest();
        fittestRefused();
        log();
        logRefused();
        nearly();
        nearlyRefused();
        missed();
        missedNone();
        missedRefused();
        stolen();
        stolenRefused();
    }

    /** Plan 0 rings at 2560 and 5120, plan 1 at 0, 0, 3840 and 3840, plan 2 at 2560, plan 3 is empty. */
    private void about(String sentence) {
        edge.of(sentence);
        x = Due.of("candle 10;candle 20;candle 30;",
            "first light 0 and light 1;ends 0 bell;ends 1 bell;",
            "first bell and bell and both 2;ends 2 bell and bell;",
            "first light 0;ends 0 bell;");
    }

    private int served(int p, int sparks, long... offices) {
        Due.row(x, 0, 3, offices);
        return x.serves(p, 0, sparks);
    }

    private int logged(long... times) {
        Due.row(x, 0, 3, times);
        return x.log(0);
    }

    private int nearTo(int sparks, long... times) {
        Due.row(x, 0, 3, times);
        return x.nearly(0, sparks);
    }

    private int found(int p, long... rests) {
        Due.row(x, 0, 3, rests);
        return x.stolen(p, 0);
    }

    private void servedOffices() {
        about("OFFICES in a ROW: SERVED is one, if some BELL of the RUN is no more than so many SPARKS from it.");
        edge.is("just then", served(0, 0, 2560), 1);
        edge.is("a spark earlier", served(0, 0, 2559), 0);
        edge.is("a spark later", served(0, 0, 2561), 0);
        edge.is("a spark earlier, by one", served(0, 1, 2559), 1);
        edge.is("a spark later, by one", served(0, 1, 2561), 1);
        edge.is("two sparks later, by one", served(0, 1, 2562), 0);
        edge.is("two sparks earlier, by one", served(0, 1, 2558), 0);
        edge.is("by the second bell", served(0, 10, 5130), 1);
        edge.is("each office by itself", served(0, 0, 2560, 2560, 5120, 5121), 3);
        edge.is("before 0", served(1, 1, -1), 1);
        edge.is("by the most", served(1, Integer.MAX_VALUE, Integer.MIN_VALUE + 1L), 1);
        edge.is("by the most, a spark too far", served(1, Integer.MAX_VALUE, Integer.MIN_VALUE - 3841L), 0);
        edge.is("by the most, as far as it goes", served(0, Integer.MAX_VALUE, 5120L + Integer.MAX_VALUE), 1);
        edge.is("by the most, one too far", served(0, Integer.MAX_VALUE, 5121L + Integer.MAX_VALUE), 0);
        edge.is("the greatest numbers", served(0, Integer.MAX_VALUE, FAR, Long.MIN_VALUE), 0);
    }

    private void mayBe() {
        about("A LOG is a ROW of times: it MAY BE of a PLAN, if these are, in order, some of its BELLS (of others he slept):");
        edge.is("all of them", logged(2560, 5120), 1);
        edge.is("the first", logged(2560), 1 + 4);
        edge.is("the last", logged(5120), 1);
        edge.is("none", logged(), 15);
        edge.is("out of order", logged(5120, 2560), 0);
        edge.is("one bell twice", logged(2560, 2560), 0);
        edge.is("two bells at one time", logged(3840, 3840), 2);
        edge.is("a third at that time", logged(3840, 3840, 3840), 0);
        edge.is("a spark off", logged(2559), 0);
        edge.is("another behind a true one", logged(2560, 5121), 0);
        edge.is("33 bits", logged(2560 + (1L << 32)), 0);
        edge.is("at 0", logged(0, 0), 2);
        edge.is("before 0", logged(-1), 0);
    }

    private void missedBells() {
        about("MISSED are the BELLS that are not of it, if the earliest BELLS are taken that can be.");
        Due.row(x, 0, 3, 0, 3840);
        edge.is("the first at 0 is taken", x.missed(1, 0, 0), 1);
        edge.is("the first at 3840 is taken", x.missed(1, 0, 1), 3);
        Due.row(x, 0, 3, 3840);
        edge.is("those before it", x.missed(1, 0, 0) * 100 + x.missed(1, 0, 1) * 10 + x.missed(1, 0, 2), 13);
        Due.row(x, 0, 3, 5120);
        edge.is("the other one", x.missed(0, 0, 0), 0);
        UnevenWax y = Due.of("", "first bell" + " and bell".repeat(39) + ";");
        Due.row(y, 0, 3, 0);
        edge.is("39 of 40", y.missed(0, 0, -1), 39);
        edge.is("the last of them", y.missed(0, 0, 38), 39);
        Due.row(y, 0, 3, new long[40]);
        edge.is("none of 40", y.missed(0, 0, -1), 0);
        Due.row(y, 0, 3);
        edge.is("all of 40", y.missed(0, 0, -1), 40);
        edge.is("the last of all", y.missed(0, 0, 39), 39);
    }

    private void near() {
        about("NEARLY: likewise, but each of its times may be so many SPARKS away from its BELL.");
        edge.is("not at all away", nearTo(0, 2560), 5);
        edge.is("a spark earlier", nearTo(1, 2559), 5);
        edge.is("a spark later", nearTo(1, 2561), 5);
        edge.is("two sparks later", nearTo(1, 2562), 0);
        edge.is("two sparks earlier", nearTo(1, 2558), 0);
        edge.is("one bell can't be two", nearTo(1279, 2560, 2561), 0);
        edge.is("1280 later", nearTo(1280, 2560, 2560), 2);
        edge.is("the second takes the second", nearTo(2560, 2560, 2560), 3);
        edge.is("out of order, near enough", nearTo(1280, 3841, 3840), 2);
        edge.is("out of order, nearer still", nearTo(1281, 3841, 3840), 3);
        edge.is("by the most", nearTo(Integer.MAX_VALUE, 2560L + Integer.MAX_VALUE), 7);
        edge.is("by the most, one too far", nearTo(Integer.MAX_VALUE, 5121L + Integer.MAX_VALUE), 0);
        edge.is("the greatest number", nearTo(Integer.MAX_VALUE, FAR), 0);
        edge.is("the least number", nearTo(Integer.MAX_VALUE, Long.MIN_VALUE), 0);
    }

    private void stolenEnds() {
        about("STOLEN, a ROW of RESTS found behind a RUN (for CANDLE 0, 1 ..): those whose number is less than REST is.");
        edge.is("just what is left", found(2, 0, 5120, 7680), 0);
        edge.is("a spark less", found(2, 0, 5119, 7680), 2);
        edge.is("a spark more", found(2, 0, 5121, 7680), 0);
        edge.is("less than nothing", found(2, -1, 5120, 7680), 1);
        edge.is("nothing at all", found(3, 0, 0, 0), 7);
        edge.is("33 bits", found(3, 1L << 32, 1L << 32, 1L << 32), 0);
        edge.is("the least numbers", found(2, Long.MIN_VALUE, Long.MIN_VALUE, Long.MIN_VALUE), 7);
        UnevenWax y = Due.of("candle 10;candle 20;", "first join 0 1 and light 0 and out 0;");
        Due.row(y, 0, 3, 7679, 0);
        edge.is("joined", y.stolen(0, 0), 1);
        Due.row(y, 0, 3, 7680, -1);
        edge.is("gone", y.stolen(0, 0), 2);
    }

    private void serves() {
        about("How many OFFICES in a ROW are SERVED by a PLAN, by so many SPARKS.");
        edge.is("none of none", served(0, 0), 0);
        edge.is("by an empty plan", served(3, Integer.MAX_VALUE, 0, 2560), 0);
        edge.is("all forty", served(0, 0, new long[40]), 0);
        edge.is("all forty at 0", served(1, 0, new long[40]), 40);
    }

    private void servesRefused() {
        about("-2: the PLAN, ROW; -6; -3: they are below 0.");
        for (int i : NONE_SUCH) {
            edge.is("plan " + i, x.serves(i, 0, 0), -2);
            edge.is("plan " + i + " is told first", x.serves(i, 0, -1), -2);
            edge.is("row " + i, x.serves(0, i, 0), -2);
            edge.is("row " + i + " is told first", x.serves(0, i, -1), -2);
        }
        edge.is("missing", x.serves(0, 3, 0), -6);
        edge.is("missing is told first", x.serves(0, 3, -1), -6);
        x.numbers(3, 0, 0);
        edge.is("-1", x.serves(0, 3, -1), -3);
        edge.is("the least", x.serves(3, 3, Integer.MIN_VALUE), -3);
        edge.is("0", x.serves(0, 3, 0), 0);
    }

    private void fittest() {
        about("The PLAN by which most are SERVED, the first of like ones.");
        Due.row(x, 0, 3, 2560);
        edge.is("two like ones", x.fittest(0, 0), 0);
        Due.row(x, 0, 3, 0, 2560, 3840);
        edge.is("most by plan 1", x.fittest(0, 0), 1);
        Due.row(x, 0, 3, 17);
        edge.is("none by any", x.fittest(0, 0), 0);
        Due.row(x, 0, 3);
        edge.is("no offices", x.fittest(0, 0), 0);
        Due.plan(x, 0, "");
        Due.row(x, 0, 3, 2560);
        edge.is("by plan 2", x.fittest(0, 0), 2);
        Due.plan(x, 3, "first light 0;ends 0 bell and light 1;ends 1 bell;");
        Due.row(x, 0, 3, 2560, 7680);
        edge.is("by plan 3", x.fittest(0, 0), 3);
        edge.is("by plan 1, from far away", x.fittest(0, 3840), 1);
    }

    private void fittestRefused() {
        about("the first of like ones. -2: the ROW; -6; -3.");
        for (int i : NONE_SUCH) {
            edge.is("row " + i, x.fittest(i, 0), -2);
            edge.is("row " + i + " is told first", x.fittest(i, -1), -2);
        }
        edge.is("missing", x.fittest(3, 0), -6);
        edge.is("missing is told first", x.fittest(3, -1), -6);
        x.numbers(3, 0, 0);
        edge.is("-1", x.fittest(3, -1), -3);
        edge.is("the least", x.fittest(3, Integer.MIN_VALUE), -3);
        edge.is("0", x.fittest(3, 0), 0);
    }

    private void log() {
        about("PLANS (bits) of which a LOG MAY BE.");
        edge.is("two", logged(2560), 5);
        edge.is("one", logged(0), 2);
        edge.is("none", logged(1), 0);
        edge.is("all", logged(), 15);
        Due.plan(x, 3, "first light 0;ends 0 bell;");
        edge.is("three", logged(2560), 13);
        edge.is("forty bells of none", logged(new long[40]), 0);
        Due.plan(x, 3, "first bell" + " and bell".repeat(39) + ";");
        edge.is("forty bells", logged(new long[40]), 8);
    }

    private void logRefused() {
        about("PLANS (bits) of which a LOG MAY BE. -2: the ROW; -6.");
        for (int i : NONE_SUCH) {
            edge.is("row " + i, x.log(i), -2);
        }
        for (int row = 0; row < 4; row++) {
            edge.is("row " + row + " is missing", x.log(row), -6);
        }
        x.numbers(2, 3, 0);
        edge.is("row 2", x.log(2), 15);
    }

    private void nearly() {
        about("PLANS (bits) of which a LOG NEARLY is, by so many SPARKS.");
        edge.is("of two", nearTo(10, 2570), 5);
        edge.is("of none", nearTo(9, 2570), 0);
        edge.is("of three", nearTo(1270, 2570), 7);
        edge.is("no times", nearTo(0), 15);
        edge.is("never of an empty plan", nearTo(Integer.MAX_VALUE, 0), 7);
    }

    private void nearlyRefused() {
        about("by so many SPARKS. -2: the ROW; -6; -3: they are below 0.");
        for (int i : NONE_SUCH) {
            edge.is("row " + i, x.nearly(i, 0), -2);
            edge.is("row " + i + " is told first", x.nearly(i, -1), -2);
        }
        edge.is("missing", x.nearly(3, 0), -6);
        edge.is("missing is told first", x.nearly(3, -1), -6);
        x.numbers(3, 0, 0);
        edge.is("-1", x.nearly(3, -1), -3);
        edge.is("the least", x.nearly(3, Integer.MIN_VALUE), -3);
        edge.is("0", x.nearly(3, 0), 15);
    }

    private void missed() {
        about("Of a LOG that MAY BE of a PLAN, k NONE: how many BELLS are MISSED, else which BELL is MISSED as the k-th.");
        Due.row(x, 0, 3, 5120);
        edge.is("how many", x.missed(0, 0, -1), 1);
        edge.is("which", x.missed(0, 0, 0), 0);
        Due.row(x, 0, 3, 2560);
        edge.is("its number, not its time", x.missed(0, 0, 0), 1);
        edge.is("none", x.missed(2, 0, -1), 0);
        Due.row(x, 0, 3);
        edge.is("all four", x.missed(1, 0, -1), 4);
        edge.is("the last of four", x.missed(1, 0, 3), 3);
        edge.is("of an empty plan", x.missed(3, 0, -1), 0);
    }

    private void missedNone() {
        about("NONE: it can't be of it, or not so many;");
        Due.row(x, 0, 3, 2561);
        edge.is("it can't be, how many", x.missed(0, 0, -1), -1);
        edge.is("it can't be, which", x.missed(0, 0, 0), -1);
        Due.row(x, 0, 3, 2560);
        int[] none = {1, 40, 63, 64, -2, Integer.MIN_VALUE, Integer.MAX_VALUE};
        for (int k : none) {
            edge.is("not so many: " + k, x.missed(0, 0, k), -1);
        }
        edge.is("not of plan 1", x.missed(1, 0, -1), -1);
        edge.is("not of an empty plan", x.missed(3, 0, -1), -1);
        Due.row(x, 0, 3);
        edge.is("none of an empty plan", x.missed(3, 0, 0), -1);
    }

    private void missedRefused() {
        about("or not so many; -2: the PLAN, ROW; -6.");
        for (int i : NONE_SUCH) {
            edge.is("plan " + i, x.missed(i, 0, 0), -2);
            edge.is("row " + i, x.missed(0, i, 0), -2);
            edge.is("plan " + i + ", how many", x.missed(i, 0, -1), -2);
        }
        for (int row = 0; row < 4; row++) {
            edge.is("row " + row + " is missing", x.missed(0, row, -1), -6);
        }
    }

    private void stolen() {
        about("STOLEN ones, as bits (of CANDLES that the ROW has).");
        edge.is("all three", found(3, 0, 0, 0), 7);
        edge.is("of two", found(3, 0, 0), 3);
        edge.is("of one", found(3, 0), 1);
        edge.is("of none", found(3), 0);
        edge.is("more numbers than candles", found(3, 0, 0, 0, -1, -1, -1, -1, -1, -1, -1), 7);
        edge.is("forty of them", found(3, new long[40]), 7);
        UnevenWax y = Due.of("candle 1;".repeat(8), "");
        Due.row(y, 0, 3, new long[9]);
        edge.is("all eight", y.stolen(0, 0), 255);
        UnevenWax z = new UnevenWax();
        Due.row(z, 0, 3, -1, -1);
        edge.is("without candles", z.stolen(0, 0), 0);
    }

    private void stolenRefused() {
        about("(of CANDLES that the ROW has). -2: the PLAN, ROW; -6.");
        for (int i : NONE_SUCH) {
            edge.is("plan " + i, x.stolen(i, 0), -2);
            edge.is("row " + i, x.stolen(0, i), -2);
        }
        for (int row = 0; row < 4; row++) {
            edge.is("row " + row + " is missing", x.stolen(0, row), -6);
        }
    }
}
