/** Sentences about what lies along a candle, and promises 7 to 10. */
final class EdgeCandles {
    private static final int[] NO_CANDLES = {-1, 6, 8, Integer.MIN_VALUE, Integer.MAX_VALUE};

    private final Edge edge;
    private final UnevenWax x = Due.of("candle 1;candle 1 60;candle 60 1;candle 1 2 3;candle 1 2 3 4 5;candle 60 60 60 60 60 60;");

    EdgeCandles(Edge edge) {
        this.edge = edge;
    }

    void all() {
        meeting();
        lengthLeft();
        halvesWorth();
        length();
        lengthRefused();
        meet();
        halves();
        pieceFromBeginning();
        pieceFromEnd();
        pieceNone();
        pieceRefused();
        noCandlesAtAll();
    }

    private void meeting() {
        edge.of("FLAMES from both ends of a CANDLE that was lit at both at once MEET at so many thousandths of its length from its beginning (downwards).");
        edge.is("one piece: its middle", x.meet(0), 500);
        edge.is("a short one ahead: 745.8", x.meet(1), 745);
        edge.is("a short one behind: 254.1", x.meet(2), 254);
        edge.is("just where pieces meet: 666.6", x.meet(3), 666);
        edge.is("within the fourth of five: 675", x.meet(4), 675);
        edge.is("six like ones", x.meet(5), 500);
        UnevenWax y = Due.of("candle 60 1 1 1 1 1;candle 1 1 1 1 1 60;");
        edge.is("all but within the first: 90.2", y.meet(0), 90);
        edge.is("all but within the last: 909.7", y.meet(1), 909);
    }

    private void lengthLeft() {
        edge.of("LENGTH: what is left, in thousandths of its length (downwards), when it burnt so many SPARKS from its beginning.");
        edge.is("one spark of 256: 996.09", x.length(0, 1), 996);
        edge.is("all but one of 256: 3.9", x.length(0, 255), 3);
        edge.is("one spark of 92160", x.length(5, 1), 999);
        edge.is("all but one of 92160", x.length(5, 92159), 0);
        edge.is("a short piece ahead is half the length", x.length(1, 256), 500);
        edge.is("a spark less of it", x.length(1, 255), 501);
        edge.is("a spark more", x.length(1, 257), 499);
        edge.is("a long piece ahead", x.length(2, 15360), 500);
        edge.is("half of the short one behind it", x.length(2, 15360 + 128), 250);
    }

    private void halvesWorth() {
        edge.of("HALVES: it is cut in the middle of its length: how long its first half would burn, in SPARKS.");
        edge.is("half of one piece", x.halves(0), 128);
        edge.is("the short one of two", x.halves(1), 256);
        edge.is("the long one of two", x.halves(2), 15360);
        edge.is("one and a half of three", x.halves(3), 256 + 256);
        edge.is("two and a half of five", x.halves(4), 256 * 3 + 384);
        edge.is("three of six", x.halves(5), 46080);
    }

    private void length() {
        edge.of("LENGTH behind so many SPARKS.");
        for (int c = 0; c < 6; c++) {
            int rest = x.candle(c, 1) * 256;
            edge.is("nothing burnt of " + c, x.length(c, 0), 1000);
            edge.is("all burnt of " + c, x.length(c, rest), 0);
        }
    }

    private void lengthRefused() {
        edge.of("-2: the CANDLE; -3: they are below 0 or above its REST.");
        for (int c : NO_CANDLES) {
            edge.is("candle " + c, x.length(c, 0), -2);
            edge.is("candle " + c + " is told first", x.length(c, -1), -2);
        }
        edge.is("-1", x.length(0, -1), -3);
        edge.is("the least", x.length(0, Integer.MIN_VALUE), -3);
        edge.is("257 of 256", x.length(0, 257), -3);
        edge.is("92161 of 92160", x.length(5, 92161), -3);
        edge.is("the most", x.length(5, Integer.MAX_VALUE), -3);
    }

    private void meet() {
        edge.of("Where FLAMES MEET. -2.");
        edge.is("candle 5", x.meet(5), 500);
        for (int c : NO_CANDLES) {
            edge.is("candle " + c, x.meet(c), -2);
        }
    }

    private void halves() {
        edge.of("HALVES. -2.");
        edge.is("candle 5", x.halves(5), 46080);
        for (int c : NO_CANDLES) {
            edge.is("candle " + c, x.halves(c), -2);
        }
    }

    private void pieceFromBeginning() {
        edge.of("The PIECE that burns next when so many SPARKS burnt from a CANDLE's beginning");
        edge.is("nothing burnt", x.piece(3, 0, false), 0);
        edge.is("a spark before they meet", x.piece(3, 255, false), 0);
        edge.is("where they meet", x.piece(3, 256, false), 1);
        edge.is("a spark before the last", x.piece(3, 767, false), 1);
        edge.is("the last", x.piece(3, 768, false), 2);
        edge.is("its last spark", x.piece(3, 1535, false), 2);
    }

    private void pieceFromEnd() {
        edge.of("(or from its end).");
        edge.is("nothing burnt", x.piece(3, 0, true), 2);
        edge.is("a spark before they meet", x.piece(3, 767, true), 2);
        edge.is("where they meet", x.piece(3, 768, true), 1);
        edge.is("a spark before the first", x.piece(3, 1279, true), 1);
        edge.is("the first", x.piece(3, 1280, true), 0);
        edge.is("its last spark", x.piece(3, 1535, true), 0);
    }

    private void pieceNone() {
        edge.of("NONE: all is burnt;");
        for (int c = 0; c < 6; c++) {
            int rest = x.candle(c, 1) * 256;
            edge.is("all of " + c, x.piece(c, rest, false), -1);
            edge.is("all of " + c + " from its end", x.piece(c, rest, true), -1);
            edge.is("all but a spark of " + c, x.piece(c, rest - 1, false), x.candle(c, 0) - 1);
            edge.is("all but a spark of " + c + " from its end", x.piece(c, rest - 1, true), 0);
        }
    }

    private void pieceRefused() {
        edge.of("NONE: all is burnt; -2; -3: they are below 0 or above its REST.");
        for (int c : NO_CANDLES) {
            edge.is("candle " + c, x.piece(c, 0, false), -2);
            edge.is("candle " + c + " is told first", x.piece(c, -1, true), -2);
        }
        int[] sparks = {-1, Integer.MIN_VALUE, 1537, Integer.MAX_VALUE};
        for (int s : sparks) {
            edge.is(s + " sparks", x.piece(3, s, false), -3);
            edge.is(s + " sparks from its end", x.piece(3, s, true), -3);
        }
    }

    private void noCandlesAtAll() {
        edge.of("-2: the CANDLE;");
        UnevenWax y = new UnevenWax();
        edge.is("length", y.length(0, 0), -2);
        edge.is("meet", y.meet(0), -2);
        edge.is("halves", y.halves(0), -2);
        edge.is("piece", y.piece(0, 0, false), -2);
    }
}
