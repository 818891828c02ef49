/** Promises 7 to 10: along a candle. */
public final class CandleTest {
    private static final Due due = new Due("CandleTest");

    public static void main(String[] args) {
        UnevenWax x = Due.of("candle 10 30;candle 1 2 3;candle 60;candle 7 1 1 1 1 1;");
        lengths(x);
        meetings(x);
        pieces(x);
        wrongInputs(x);
        due.close();
    }

    private static void lengths(UnevenWax x) {
        due.is("nothing burnt", x.length(1, 0), 1000);
        due.is("one spark", x.length(1, 1), 998);
        due.is("half of piece 0", x.length(1, 128), 833);
        due.is("a spark before the meeting", x.length(1, 255), 667);
        due.is("where pieces meet", x.length(1, 256), 666);
        due.is("half of piece 1", x.length(1, 512), 500);
        due.is("a spark before its end", x.length(1, 1535), 0);
        due.is("its end", x.length(1, 1536), 0);
        due.is("a third of piece 2", x.length(1, 1024), 222);
    }

    private static void meetings(UnevenWax x) {
        due.is("meet(0)", x.meet(0), 666);
        due.is("meet(1): where pieces 1 and 2 meet", x.meet(1), 666);
        due.is("meet(2)", x.meet(2), 500);
        due.is("meet(3)", x.meet(3), 142);
        due.is("halves(0)", x.halves(0), 2560);
        due.is("halves(1)", x.halves(1), 512);
        due.is("halves(2)", x.halves(2), 7680);
        due.is("halves(3)", x.halves(3), 9 * 256);
    }

    private static void pieces(UnevenWax x) {
        int[] fromBeginning = {0, 255, 256, 767, 768, 1535, 1536};
        int[] due1 = {0, 0, 1, 1, 2, 2, -1};
        int[] due2 = {2, 2, 2, 2, 1, 0, -1};
        for (int i = 0; i < fromBeginning.length; i++) {
            int sparks = fromBeginning[i];
            due.is("piece(1, " + sparks + ", false)", x.piece(1, sparks, false), due1[i]);
            due.is("piece(1, " + sparks + ", true)", x.piece(1, sparks, true), due2[i]);
        }
        due.is("before piece 0, from the end", x.piece(1, 1279, true), 1);
        due.is("piece 0, from the end", x.piece(1, 1280, true), 0);
    }

    private static void wrongInputs(UnevenWax x) {
        int[] none = {-1, 4, Integer.MIN_VALUE, Integer.MAX_VALUE};
        for (int c : none) {
            due.is("length of none", x.length(c, -1), -2);
            due.is("meet of none", x.meet(c), -2);
            due.is("halves of none", x.halves(c), -2);
            due.is("piece of none", x.piece(c, -1, true), -2);
        }
        int[] sparks = {-1, 1537, Integer.MIN_VALUE, Integer.MAX_VALUE};
        for (int s : sparks) {
            due.is("length(1, " + s + ")", x.length(1, s), -3);
            due.is("piece(1, " + s + ")", x.piece(1, s, false), -3);
            due.is("piece(1, " + s + ")", x.piece(1, s, true), -3);
        }
    }
}
