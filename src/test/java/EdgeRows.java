/** Sentences about rows of numbers and images, and promises 43 to 48. */
final class EdgeRows {
    private static final int[] NO_ROWS = {-1, 4, Integer.MIN_VALUE, Integer.MAX_VALUE};
    private static final int[] NO_IMAGES = {-1, 2, Integer.MIN_VALUE, Integer.MAX_VALUE};

    private final Edge edge;

    EdgeRows(Edge edge) {
        this.edge = edge;
    }

    void all() {
        missingAtFirst();
        lengths();
        sorts();
        imagesHold();
        imagesAtFirst();
        numbers();
        numbersNone();
        numbersStay();
        write();
        writeRefused();
        copy();
        copyNone();
        copyTooMuch();
        image();
        imageNone();
        restore();
        restoreRefused();
        count();
        countNone();
    }

    private static UnevenWax ringing() {
        return Due.of("candle 10;candle 20;", "first light 0 and light 1;ends 0 bell;ends 1 bell;", "first bell;", "", "first bell" + " and bell".repeat(39) + ";");
    }

    private void missingAtFirst() {
        edge.of("ROWS OF NUMBERS 0 to 3 are MISSING at first");
        UnevenWax x = new UnevenWax();
        for (int row = 0; row < 4; row++) {
            edge.is("write to " + row, x.write(row, 0, 1), -6);
            edge.is("log of " + row, x.log(row), -6);
            edge.is("copy to " + row, x.copy(0, row), -6);
        }
        edge.is("there is no fifth", x.write(4, 0, 1), -2);
        x.numbers(2, 0, 1);
        edge.is("the others are missing still", x.write(1, 0, 1) + x.write(3, 0, 1), -12);
    }

    private void lengths() {
        edge.of("or have 0 to 40 numbers");
        UnevenWax x = new UnevenWax();
        edge.is("-1", x.numbers(0, 0, -1), -3);
        edge.is("0", x.numbers(0, 0, 0), 0);
        edge.is("no first number", x.write(0, 0, 1), -7);
        edge.is("1", x.numbers(1, 0, 1), 0);
        edge.is("its first number", x.write(1, 0, 1), 1);
        edge.is("no second number", x.write(1, 1, 1), -7);
        edge.is("40", x.numbers(2, 3, 40), 0);
        edge.is("its fortieth number", x.write(2, 39, 1), 1);
        edge.is("no 41st number", x.write(2, 40, 1), -7);
        edge.is("41", x.numbers(3, 3, 41), -3);
    }

    private void sorts() {
        edge.of("numbers of 8 bits (sort 0), 16 (1), 32 (2), 64 (3).");
        UnevenWax x = new UnevenWax();
        for (int sort = 0; sort < 4; sort++) {
            x.numbers(sort, sort, 1);
            int bits = 8 << sort;
            long most = (1L << bits - 1) - 1;
            edge.is("the most of " + bits, x.write(sort, 0, most), most);
            edge.is("the least of " + bits, x.write(sort, 0, -most - 1), -most - 1);
            edge.is("one more than the most of " + bits, x.write(sort, 0, most + 1), -most - 1);
            edge.is("one less than the least of " + bits, x.write(sort, 0, -most - 2), most);
            edge.is("all bits of " + bits, x.write(sort, 0, -1), -1);
            edge.is("no bits of " + bits, x.write(sort, 0, bits == 64 ? 0 : 1L << bits), 0);
            edge.is("one above " + bits, x.write(sort, 0, bits == 64 ? 1 : (1L << bits) + 1), 1);
        }
    }

    private void imagesHold() {
        edge.of("IMAGES 0 to 1: THE CELLAR and PLANS, as they were");
        UnevenWax x = Due.of("candle 1 2 3 4 5 6 wax 999 draught 50;candle 7;".concat("candle 1;".repeat(6)), "first bell;", "first light 0;ends 0 bell;", "ends 7 bell;".repeat(20),
            "first bell" + " and bell".repeat(39) + ";");
        x.image(1);
        Due.cellar(x, "candle 9;");
        for (int p = 0; p < 4; p++) {
            x.plan(p, 0);
        }
        Due.row(x, 2, 1, 5, 6);
        Due.feed(x, "candle 8;");
        edge.is("restored", x.restore(1), 0);
        edge.is("candles", x.count(0), 8);
        edge.is("wax", x.count(7), 999 + 60 * 7);
        edge.is("draught", x.candle(0, 3), 50);
        edge.is("its last piece", x.candle(0, 15), 6);
        edge.is("rules of 2", x.count(3), 20);
        edge.is("idle rules of 2", x.idle(2), (1 << 20) - 1);
        edge.is("bells of 3", x.run(3, 0), 40);
        edge.is("bell of 1", x.bell(1, 0), 21 * 256);
        edge.is("no tape is in it", x.count(5), 20);
        edge.is("no rows are in it", x.write(2, 1, 6), 6);
        edge.is("nor is what they lack", x.write(2, 2, 6), -7);
    }

    private void imagesAtFirst() {
        edge.of("(none at first).");
        UnevenWax x = new UnevenWax();
        edge.is("image 0", x.restore(0), -5);
        edge.is("image 1", x.restore(1), -5);
        x.image(0);
        edge.is("image 1 is still none", x.restore(1), -5);
        edge.is("image 0 is one of no candles", x.restore(0), 0);
    }

    private void numbers() {
        edge.of("A ROW OF NUMBERS has n numbers of a sort, all 0 (in place of another one): 0.");
        UnevenWax x = ringing();
        edge.is("made", x.numbers(0, 3, 40), 0);
        edge.is("all 0", x.log(0), 8);
        Due.row(x, 0, 3, 1, 2, 3);
        edge.is("in place of it, longer", x.numbers(0, 3, 40), 0);
        edge.is("all 0 again", x.log(0), 8);
        edge.is("in place of it, empty", x.numbers(0, 0, 0), 0);
        edge.is("no numbers", x.log(0), 15);
        edge.is("in place of it, another sort", x.numbers(0, 1, 1), 0);
        edge.is("cut to it", x.write(0, 0, 40000), 40000 - 65536);
        edge.is("another row", x.numbers(3, 2, 1), 0);
        edge.is("the first is as it was", x.write(0, 1, 1), -7);
    }

    private void numbersNone() {
        edge.of("-2: no such ROW, sort;");
        UnevenWax x = new UnevenWax();
        for (int row : NO_ROWS) {
            edge.is("row " + row, x.numbers(row, 0, 1), -2);
            edge.is("row " + row + " is told first", x.numbers(row, 0, 41), -2);
            edge.is("sort " + row, x.numbers(0, row, 1), -2);
            edge.is("sort " + row + " is told first", x.numbers(0, row, -1), -2);
        }
        edge.is("still missing", x.write(0, 0, 1), -6);
    }

    private void numbersStay() {
        edge.of("-3, and the ROW stays: n is below 0 or above 40.");
        UnevenWax x = ringing();
        Due.row(x, 0, 3, 2560, 5120);
        int[] lengths = {-1, 41, Integer.MIN_VALUE, Integer.MAX_VALUE};
        for (int n : lengths) {
            edge.is("n " + n, x.numbers(0, 0, n), -3);
            edge.is("n " + n + ", of a row that is missing", x.numbers(1, 0, n), -3);
        }
        edge.is("the row stays", x.log(0), 1);
        edge.is("its sort stays", x.write(0, 0, 1L << 40), 1L << 40);
        edge.is("missing stays missing", x.log(1), -6);
    }

    private void write() {
        edge.of("Number i of a ROW OF NUMBERS is v, cut to its sort: as it is there.");
        UnevenWax x = ringing();
        x.numbers(0, 1, 2);
        edge.is("as it is", x.write(0, 0, 2560), 2560);
        edge.is("cut", x.write(0, 1, 5120 + 65536), 5120);
        edge.is("they are there", x.log(0), 1);
        edge.is("in place of it", x.write(0, 1, 5121), 5121);
        edge.is("no bell", x.log(0), 0);
        edge.is("a wrap-around", x.write(0, 0, 32768), -32768);
        x.numbers(1, 0, 1);
        edge.is("255 in 8 bits", x.write(1, 0, 255), -1);
        edge.is("256 in 8 bits", x.write(1, 0, 256), 0);
        edge.is("the least of all in 8 bits", x.write(1, 0, Long.MIN_VALUE), 0);
        edge.is("the most of all in 8 bits", x.write(1, 0, Long.MAX_VALUE), -1);
    }

    private void writeRefused() {
        edge.of("as it is there. -2: no such ROW; -6; -7.");
        UnevenWax x = new UnevenWax();
        x.numbers(0, 3, 2);
        for (int row : NO_ROWS) {
            edge.is("row " + row, x.write(row, 0, 1), -2);
            edge.is("row " + row + " is told first", x.write(row, -1, 1), -2);
        }
        edge.is("missing", x.write(1, 0, 1), -6);
        edge.is("missing is told first", x.write(1, -1, 1), -6);
        int[] places = {-1, 2, 40, Integer.MIN_VALUE, Integer.MAX_VALUE};
        for (int i : places) {
            edge.is("place " + i, x.write(0, i, 1), -7);
        }
        edge.is("the last place", x.write(0, 1, 1), 1);
    }

    private void copy() {
        edge.of("BELLS of a PLAN come into a ROW from its first place on: how many.");
        UnevenWax x = ringing();
        x.numbers(0, 2, 2);
        edge.is("just as many places", x.copy(0, 0), 2);
        edge.is("in order", x.log(0), 1);
        Due.row(x, 1, 2, 7, 7, 5120);
        edge.is("more places", x.copy(0, 1), 2);
        edge.is("the last stays", x.serves(0, 1, 0), 3);
        edge.is("none of an empty plan", x.copy(2, 0), 0);
        edge.is("all stays", x.log(0), 1);
        x.numbers(2, 0, 0);
        edge.is("none into no places", x.copy(2, 2), 0);
        x.numbers(3, 3, 40);
        Due.row(x, 3, 3, new long[40]);
        x.write(3, 39, 5);
        edge.is("forty into forty", x.copy(3, 3), 40);
        edge.is("the fortieth came", x.log(3), 8);
        x.numbers(3, 0, 2);
        edge.is("into 8 bits", x.copy(0, 3), 2);
        edge.is("cut to 0 and 0", x.serves(1, 3, 0), 2);
        Due.cellar(x, "candle 60 60 60 60 60 60;candle 10;");
        x.numbers(3, 1, 2);
        x.copy(0, 3);
        Due.plan(x, 2, "first light 1;ends 1 bell;");
        edge.is("2560 in 16 bits", x.serves(2, 3, 0), 1);
        edge.is("92160 in 16 bits is 26624", x.serves(2, 3, 26624 - 2560), 2);
        edge.is("not less", x.serves(2, 3, 26624 - 2561), 1);
    }

    private void copyNone() {
        edge.of("from its first place on: how many. -2: the PLAN, ROW; -6;");
        UnevenWax x = ringing();
        x.numbers(0, 0, 0);
        for (int i : NO_ROWS) {
            edge.is("plan " + i, x.copy(i, 0), -2);
            edge.is("plan " + i + " is told first", x.copy(i, 1), -2);
            edge.is("row " + i, x.copy(0, i), -2);
        }
        for (int row = 1; row < 4; row++) {
            edge.is("row " + row + " is missing", x.copy(0, row), -6);
            edge.is("row " + row + " is missing for none", x.copy(2, row), -6);
        }
    }

    private void copyTooMuch() {
        edge.of("-7: it has not so many places (nothing comes).");
        UnevenWax x = ringing();
        Due.row(x, 0, 2, 7);
        edge.is("one place for two", x.copy(0, 0), -7);
        edge.is("nothing came", x.serves(0, 0, 0), 0);
        x.numbers(1, 0, 0);
        edge.is("no place for one", x.copy(1, 1), -7);
        x.numbers(2, 2, 39);
        x.write(2, 0, 3);
        edge.is("39 places for 40", x.copy(3, 2), -7);
        edge.is("nothing came", x.log(2), 0);
    }

    private void image() {
        edge.of("An IMAGE is made: 0.");
        UnevenWax x = Due.of("candle 10;", "first light 0;ends 0 bell;");
        edge.is("image 0", x.image(0), 0);
        Due.cellar(x, "candle 20;");
        edge.is("image 1", x.image(1), 0);
        Due.cellar(x, "candle 30;candle 1;");
        x.restore(0);
        edge.is("image 0 is as it was", x.bell(0, 0), 2560);
        x.restore(1);
        edge.is("image 1 is another", x.bell(0, 0), 5120);
        Due.cellar(x, "candle 30;candle 1;");
        edge.is("image 0 anew", x.image(0), 0);
        x.restore(1);
        x.restore(0);
        edge.is("in place of the old one", x.bell(0, 0), 7680);
    }

    private void imageNone() {
        edge.of("An IMAGE is made: 0. -2.");
        UnevenWax x = new UnevenWax();
        for (int i : NO_IMAGES) {
            edge.is("image " + i, x.image(i), -2);
        }
        edge.is("none was made", x.restore(0) + x.restore(1), -10);
    }

    private void restore() {
        edge.of("All that is in an IMAGE is as it was: 0.");
        UnevenWax x = Due.of("candle 10 wax 7;candle 1;candle 4;", "first light 0;ends 0 bell;", "first bell;");
        x.image(0);
        int told = x.time(6, true, -1);
        int along = x.alongs(3, -1);
        Due.cellar(x, "candle 20 20;candle 5;candle 6;");
        x.plan(1, 0);
        Due.plan(x, 0, "first both 0;ends 0 bell;");
        edge.is("other times", x.time(6, true, 0), 640);
        edge.is("other moments", x.alongs(1, -1), 3);
        edge.is("off", x.off(0, 0, 0), 5120);
        edge.is("restored", x.restore(0), 0);
        edge.is("told as before", x.time(6, true, -1), told);
        edge.is("the least of them", x.time(6, true, 0), 128);
        edge.is("along as before", x.alongs(3, -1), along);
        edge.is("off as before", x.off(0, 0, 0), 2560);
        edge.is("plan 1 as before", x.run(1, 0), 1);
        Due.cellar(x, "");
        edge.is("a second time", x.restore(0), 0);
        edge.is("as it was", x.count(7), 127);
        UnevenWax y = new UnevenWax();
        y.image(1);
        Due.cellar(y, "candle 5;");
        Due.plan(y, 3, "first bell;");
        edge.is("an image of nothing", y.restore(1), 0);
        edge.is("no candles", y.count(0), 0);
        edge.is("no rules", y.count(4), 0);
    }

    private void restoreRefused() {
        edge.of("is as it was: 0. -2; -5: none was made.");
        UnevenWax x = Due.of("candle 10;");
        for (int i : NO_IMAGES) {
            edge.is("image " + i, x.restore(i), -2);
        }
        edge.is("0", x.restore(0), -5);
        edge.is("1", x.restore(1), -5);
        x.image(1);
        edge.is("0 still", x.restore(0), -5);
        edge.is("all is as it was", x.candle(0, 1), 10);
    }

    private void count() {
        edge.of("0 CANDLES, 1 to 4 RULES of PLANS 0 to 3, 5 bytes on THE TAPE, 6 LINES, 7 all wax.");
        UnevenWax x = Due.of("candle 1 wax 999;".repeat(8), "first bell;".repeat(20), "first bell;".repeat(3), "", "first bell;");
        for (int i = 0; i < 20; i++) {
            x.feed(0, 0, 0, 0, 0);
        }
        int[] want = {8, 20, 3, 0, 1, 400, 8, 7992};
        for (int what = 0; what < 8; what++) {
            edge.is("count(" + what + ")", x.count(what), want[what]);
        }
        UnevenWax y = new UnevenWax();
        for (int what = 0; what < 8; what++) {
            edge.is("of a new object, " + what, y.count(what), 0);
        }
    }

    private void countNone() {
        edge.of("7 all wax. NONE for others.");
        UnevenWax x = Due.of("candle 1;");
        int[] others = {-1, 8, Integer.MIN_VALUE, Integer.MAX_VALUE};
        for (int what : others) {
            edge.is("count(" + what + ")", x.count(what), -1);
        }
    }
}
