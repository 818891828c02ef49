/** Sentences about ways along candles, and promises 35 and 36. */
final class EdgeAlongs {
    private static final int[] NO_SETS = {0, -1, 7, 8, 9, 256, Integer.MIN_VALUE, Integer.MAX_VALUE};
    private static final String GREAT = "candle 60 60 60 60 60 60;";

    private final Edge edge;

    EdgeAlongs(Edge edge) {
        this.edge = edge;
    }

    void all() {
        oneOrTwo();
        flamesAtEnds();
        givenAtMoments();
        litOnce();
        wherePiecesMeet();
        hasEnded();
        over();
        along();
        alongRefused();
        alongs();
        alongsNone();
    }

    private void moments(String cellar, int set, int... want) {
        UnevenWax x = Due.of(cellar);
        edge.is(cellar + " how many", x.alongs(set, -1), want.length);
        for (int k = 0; k < want.length; k++) {
            edge.is(cellar + " moment " + k, x.alongs(set, k), want[k]);
            edge.is(cellar + " along " + want[k], x.along(set, want[k]), 1);
            edge.is(cellar + " along " + (want[k] - 1), x.along(set, want[k] - 1), 0);
        }
    }

    private void oneOrTwo() {
        edge.of("ALONG, for one or two CANDLES:");
        UnevenWax x = Due.of(GREAT.repeat(8));
        edge.is("one", x.along(128, 92160), 1);
        edge.is("two", x.along(129, 2 * 92160), 1);
        edge.is("three", x.along(131, 92160), -3);
        edge.is("none", x.along(0, 92160), -3);
        edge.is("a ninth", x.along(256, 92160), -3);
        edge.is("three, all of them", x.alongs(7, -1), -3);
    }

    private void flamesAtEnds() {
        edge.of("each has a FLAME at its beginning or not, at its end or not;");
        // From its beginning 1 minute is told at once, from its end 5 minutes, from both 3.
        moments("candle 1 5;", 1, 256, 768, 896, 1280, 1408, 1536);
        moments("candle 5 1;", 1, 256, 768, 896, 1280, 1408, 1536);
    }

    private void givenAtMoments() {
        edge.of("at time 0 and at each MOMENT FLAMES may be given");
        moments("candle 1 1;", 1, 256, 384, 512);
        moments("candle 1 2 3;", 1, 256, 768, 896, 1024, 1152, 1280, 1408, 1536);
        // Where its pieces meet the other candle may be lit.
        moments("candle 1 1;candle 3;", 3, 256, 384, 448, 512, 576, 640, 704, 768, 896, 1024, 1152, 1280);
    }

    private void litOnce() {
        edge.of("(none is taken away, one place may be lit but once);");
        moments("candle 1;candle 4;", 3, 128, 256, 512, 576, 640, 768, 1024, 1152, 1280);
        edge.is("two, then one can't be", Due.of("candle 1;candle 4;").along(3, 896), 0);
        UnevenWax x = Due.of("candle 3;candle 50;candle 7;");
        edge.is("put out by out", x.can(3, true, 48 * 256 + 128), 1);
        edge.is("none is taken away", x.along(3, 48 * 256 + 128), 0);
    }

    private void wherePiecesMeet() {
        edge.of("MOMENTS are also the times at which a FLAME comes to where two PIECES meet (from its beginning it burns PIECE 0, then 1 .., from its end the last, then ..);");
        moments("candle 10 30;", 1, 2560, 5120, 6400, 7680, 8960, 10240);
        moments("candle 60;", 1, 7680, 15360);
        UnevenWax x = Due.of("candle 1 2 4 8 16 32;");
        int[] fromBeginning = {1, 3, 7, 15, 31, 63};
        int[] fromEnd = {32, 48, 56, 60, 62, 63};
        for (int i = 0; i < 6; i++) {
            edge.is("from its beginning " + i, x.along(1, fromBeginning[i] * 256), 1);
            edge.is("from its end " + i, x.along(1, fromEnd[i] * 256), 1);
        }
        edge.is("within a piece", x.along(1, 2 * 256), 0);
        UnevenWax y = Due.of("candle 1 2 4 8 16 32;candle 60;");
        edge.is("then the other, from its fifth", y.along(3, (31 + 60) * 256), 1);
    }

    private void hasEnded() {
        edge.of("a CANDLE has ended when both FLAMES meet, or the one has burnt it all.");
        moments("candle 1;", 1, 128, 256);
        // Where both flames come to the meeting of its pieces at once, it has ended.
        moments("candle 2 2;", 1, 512, 768, 1024);
        moments("candle 60;candle 60;", 3, 7680, 11520, 15360, 23040, 30720);
        edge.is("all of two great ones", Due.of(GREAT.repeat(2)).along(3, 2 * 92160), 1);
        edge.is("no more than that", Due.of(GREAT.repeat(2)).along(3, 2 * 92160 + 64), 0);
    }

    private void over() {
        edge.of("At least one burns, or it is over.");
        UnevenWax x = Due.of("candle 1;candle 4;");
        edge.is("one may be left whole till the other's end", x.along(3, 1280), 1);
        edge.is("then it is over or lit", x.alongs(3, 8), 1280);
        edge.is("nothing behind it", x.alongs(3, 9), -1);
    }

    private void along() {
        edge.of("Whether a time is a MOMENT of some way ALONG: 1, 0.");
        UnevenWax x = Due.of("candle 10 30;candle 1;");
        edge.is("35 minutes", x.along(1, 8960), 1);
        edge.is("a spark more", x.along(1, 8961), 0);
        edge.is("a spark less", x.along(1, 8959), 0);
        edge.is("the least time", x.along(1, 1), 0);
        edge.is("the most", x.along(1, Integer.MAX_VALUE), 0);
        edge.is("of the other candle", x.along(2, 128), 1);
        edge.is("not of the first", x.along(1, 128), 0);
        edge.is("of both", x.along(3, 41 * 256), 1);
    }

    private void alongRefused() {
        edge.of("-3: the set (one or two CANDLES); the time is below 1.");
        UnevenWax x = Due.of("candle 1;candle 2;candle 3;");
        for (int set : NO_SETS) {
            edge.is("set " + set, x.along(set, 256), -3);
        }
        int[] times = {0, -1, -256, Integer.MIN_VALUE};
        for (int time : times) {
            edge.is("time " + time, x.along(1, time), -3);
        }
        edge.is("without candles", new UnevenWax().along(1, 256), -3);
    }

    private void alongs() {
        edge.of("The k-th of all MOMENTS of all ways ALONG, the least first; k NONE: how many.");
        UnevenWax x = Due.of("candle 1 1;candle 60 60 60 60 60 60;candle 60 60 60 60 60 60;");
        edge.is("the least", x.alongs(1, 0), 256);
        edge.is("the last", x.alongs(1, 2), 512);
        edge.is("how many", x.alongs(1, -1), 3);
        edge.is("of two great ones the last", x.alongs(6, x.alongs(6, -1) - 1), 184320);
        edge.is("of two great ones the least", x.alongs(6, 0), 15360);
        edge.is("of the first again", x.alongs(1, 1), 384);
        Due.cellar(x, "candle 1;");
        edge.is("by a new cellar", x.alongs(1, 0), 128);
    }

    private void alongsNone() {
        edge.of("k NONE: how many. NONE: not so many; -3: the set.");
        UnevenWax x = Due.of("candle 1 1;candle 2;candle 3;");
        int[] none = {3, 64, -2, Integer.MIN_VALUE, Integer.MAX_VALUE};
        for (int k : none) {
            edge.is("alongs(1, " + k + ")", x.alongs(1, k), -1);
        }
        for (int set : NO_SETS) {
            edge.is("set " + set, x.alongs(set, 0), -3);
            edge.is("set " + set + ", how many", x.alongs(set, -1), -3);
        }
        edge.is("without candles", new UnevenWax().alongs(1, -1), -3);
    }
}
