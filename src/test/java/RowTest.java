/** Promises 43 to 48: rows of numbers, images, counts. */
public final class RowTest {
    private static final Due due = new Due("RowTest");

    public static void main(String[] args) {
        rows();
        sorts();
        copies();
        images();
        counts();
        due.close();
    }

    private static void rows() {
        UnevenWax x = new UnevenWax();
        due.is("missing", x.write(0, 0, 1), -6);
        due.is("numbers(-1, ..)", x.numbers(-1, 0, 99), -2);
        due.is("numbers(4, ..)", x.numbers(4, 0, 1), -2);
        due.is("sort -1", x.numbers(0, -1, 99), -2);
        due.is("sort 4", x.numbers(0, 4, 1), -2);
        due.is("still missing", x.write(0, 0, 1), -6);
        due.is("n 0", x.numbers(0, 0, 0), 0);
        due.is("no place", x.write(0, 0, 1), -7);
        due.is("n 40", x.numbers(3, 3, 40), 0);
        due.is("the last place", x.write(3, 39, 5), 5);
        due.is("behind it", x.write(3, 40, 5), -7);
        due.is("before 0", x.write(3, -1, 5), -7);
        due.is("n 41", x.numbers(3, 0, 41), -3);
        due.is("n -1", x.numbers(3, 0, -1), -3);
        due.is("the row stays", x.write(3, 39, 1L << 40), 1L << 40);
        due.is("write(-1, ..)", x.write(-1, 0, 5), -2);
        due.is("write(4, ..)", x.write(4, 0, 5), -2);
        Due.row(x, 1, 3, 7, 8);
        due.is("new in its place", x.numbers(1, 3, 2), 0);
        UnevenWax y = Due.of("candle 1;", "first bell and bell;");
        Due.row(y, 1, 3, 7, 8);
        y.numbers(1, 3, 2);
        due.is("all 0", y.missed(0, 1, -1), 0);
    }

    private static void sorts() {
        UnevenWax x = new UnevenWax();
        long[] values = {0, 127, 128, -129, 255, 32767, 32768, -32769, 65536, 1L << 31, (1L << 31) - 1, 1L << 32, Long.MIN_VALUE, Long.MAX_VALUE};
        x.numbers(0, 0, 1);
        x.numbers(1, 1, 1);
        x.numbers(2, 2, 1);
        x.numbers(3, 3, 1);
        for (long v : values) {
            due.is("8 bits of " + v, x.write(0, 0, v), (byte) v);
            due.is("16 bits of " + v, x.write(1, 0, v), (short) v);
            due.is("32 bits of " + v, x.write(2, 0, v), (int) v);
            due.is("64 bits of " + v, x.write(3, 0, v), v);
        }
    }

    private static void copies() {
        UnevenWax x = Due.of("candle 10;candle 20;", "first light 0 and light 1;ends 0 bell;ends 1 bell;", "");
        due.is("missing", x.copy(0, 0), -6);
        x.numbers(0, 2, 1);
        due.is("too few places", x.copy(0, 0), -7);
        due.is("nothing came", x.serves(0, 0, 0), 0);
        Due.row(x, 0, 2, 1, 2, 2560);
        due.is("copied", x.copy(0, 0), 2);
        due.is("three of them ring", x.serves(0, 0, 0), 3);
        x.numbers(0, 2, 2);
        x.copy(0, 0);
        due.is("in order", x.log(0), 1);
        due.is("nothing to copy", x.copy(1, 0), 0);
        due.is("the others stay", x.log(0), 1);
        due.is("no such plan", x.copy(4, 3), -2);
        due.is("no such row", x.copy(0, 4), -2);
        x.numbers(1, 0, 2);
        due.is("cut to 8 bits", x.copy(0, 1), 2);
        due.is("2560 and 5120 are 0 in 8 bits", x.serves(2, 1, 0), 0);
        Due.plan(x, 2, "first bell;");
        due.is("both at 0", x.serves(2, 1, 0), 2);
        x.numbers(1, 0, 0);
        due.is("no places for none", x.copy(1, 1), 0);
        due.is("no places for two", x.copy(0, 1), -7);
    }

    private static void images() {
        UnevenWax x = Due.of("candle 10 wax 5 draught 3;candle 20;", "first light 0;ends 0 bell;", "first bell;", "first light 1;ends 1 bell;", "first bell and bell;");
        due.is("image(-1)", x.image(-1), -2);
        due.is("image(2)", x.image(2), -2);
        due.is("restore(-1)", x.restore(-1), -2);
        due.is("restore(2)", x.restore(2), -2);
        due.is("none was made", x.restore(1), -5);
        due.is("image(1)", x.image(1), 0);
        due.is("none of the other", x.restore(0), -5);
        x.alongs(1, -1);
        x.time(1, false, -1);
        x.time(1, true, -1);
        x.off(0, 0, 0);
        x.numbers(0, 0, 1);
        Due.cellar(x, "candle 30 30 30 wax 8;");
        for (int p = 0; p < 4; p++) {
            x.plan(p, 0);
        }
        due.is("image(0)", x.image(0), 0);
        Due.feed(x, "first bell;");
        due.is("restore(1)", x.restore(1), 0);
        due.is("candles", x.count(0), 2);
        due.is("wax", x.count(7), 65);
        due.is("minutes", x.candle(0, 1), 10);
        due.is("draught", x.candle(0, 3), 3);
        due.is("the tape is as it is", x.count(5), 20);
        due.is("rows are as they are", x.write(0, 0, 3), 3);
        due.is("bell of plan 0", x.bell(0, 0), 2560);
        due.is("bell of plan 2", x.bell(2, 0), 5120);
        due.is("bells of plan 3", x.run(3, 0), 2);
        due.is("along as it was", x.alongs(1, -1), 2);
        due.is("told as it was", x.time(1, false, 1), 2560);
        due.is("told, with out", x.time(1, true, 1), 2560);
        due.is("off as it was", x.off(0, 0, 0), 2560 * 97 / 100);
        due.is("the other image", x.restore(0), 0);
        due.is("one candle", x.count(0), 1);
        due.is("pieces", x.candle(0, 0), 3);
        due.is("along by pieces", x.alongs(1, -1) > 2 ? 1 : 0, 1);
        due.is("told anew", x.time(1, false, 1), 90 * 256);
        due.is("no rules", x.count(1), 0);
        Due.cellar(x, "");
        due.is("the image stays", x.restore(0), 0);
        due.is("one candle again", x.count(0), 1);
    }

    private static void counts() {
        UnevenWax x = Due.of("candle 10 wax 999;candle 20 wax 1;candle 5;", "first bell;", "", "first bell;first bell;", "ends 7 bell;first bell;ends 1 bell;");
        int[] want = {3, 1, 0, 2, 3, 0, 3, 1060};
        for (int what = 0; what < 8; what++) {
            due.is("count(" + what + ")", x.count(what), want[what]);
        }
        x.feed(0, 0, 0, 0, 0);
        due.is("bytes", x.count(5), 20);
        due.is("count(8)", x.count(8), -1);
        due.is("count(-1)", x.count(-1), -1);
        due.is("count(most)", x.count(Integer.MAX_VALUE), -1);
    }
}
