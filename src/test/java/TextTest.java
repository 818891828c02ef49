/** Promises 1 to 6: a new object, the tape, texts and their faults, candles. */
public final class TextTest {
    private static final Due due = new Due("TextTest");

    public static void main(String[] args) {
        newObject();
        tape();
        tapeInOrder();
        cellars();
        cellarFaults();
        planFaults();
        limits();
        faultAndWhatStays();
        candles();
        due.close();
    }

    private static void newObject() {
        UnevenWax x = new UnevenWax();
        for (int what = 0; what <= 7; what++) {
            due.is("new count(" + what + ")", x.count(what), 0);
        }
        for (int p = 0; p < 4; p++) {
            due.is("new run", x.run(p, 0), 0);
            due.is("new over", x.run(p, 1), 0);
            due.is("new wax", x.run(p, 4), 0);
            due.is("new days", x.days(p, 5, -1), 0);
        }
        due.is("new fault(0)", x.fault(0), 0);
        due.is("new fault(1)", x.fault(1), -1);
        due.is("new fault(2)", x.fault(2), -1);
        due.is("new fault(-1)", x.fault(-1), -1);
        due.is("new candle", x.candle(0, 0), -2);
        due.is("new restore", x.restore(0), -5);
    }

    private static void tape() {
        UnevenWax x = new UnevenWax();
        for (int i = 1; i <= 20; i++) {
            due.is("feed", x.feed(0x20202020, 0x20202020, 0x20202020, 0x20202020, 0x20202020), 20 * i);
        }
        due.is("feed beyond 400", x.feed(1, 2, 3, 4, 5), -5);
        due.is("count(5)", x.count(5), 400);
        due.is("cellar(401)", x.cellar(401), -3);
        due.is("cellar(-1)", x.cellar(-1), -3);
        due.is("plan(-1, 500)", x.plan(-1, 500), -2);
        due.is("plan(4, 400)", x.plan(4, 400), -2);
        due.is("plan(0, 401)", x.plan(0, 401), -3);
        due.is("plan(0, -1)", x.plan(0, -1), -3);
        due.is("the tape stays", x.count(5), 400);
        due.is("blanks alone", x.cellar(400), 0);
        due.is("the tape is empty", x.count(5), 0);
        due.is("fault of blanks", x.fault(0), 0);
    }

    private static void tapeInOrder() {
        UnevenWax x = new UnevenWax();
        x.feed(0x63616e64, 0x6c652037, 0x3b202020, 0x20202020, 0x20202020);
        due.is("a part of the tape", x.cellar(9), 1);
        due.is("the rest of it is gone", x.count(5), 0);
        due.is("minutes", x.candle(0, 1), 7);
        x.feed(0xff202020, 0x20202020, 0x20202020, 0x20202020, 0x20202020);
        due.is("a sign above 127", x.cellar(20), -31);
        due.is("its place", x.fault(1), 0);
    }

    private static void cellars() {
        UnevenWax x = new UnevenWax();
        due.is("no blanks, new lines", Due.cellar(x, "\ncandle1 2wax3draught4;\ncandle\n060 ; "), 2);
        due.is("pieces", x.candle(0, 0), 2);
        due.is("wax", x.candle(0, 2), 3);
        due.is("draught", x.candle(0, 3), 4);
        due.is("060", x.candle(1, 1), 60);
        due.is("fault", x.fault(0), 0);
        due.is("place", x.fault(1), -1);
        due.is("edges", Due.cellar(x, "candle 1 60 wax 1 draught 0;candle 1 wax 999 draught 50;"), 2);
        due.is("count(7)", x.count(7), 1000);
        due.is("count(6)", x.count(6), 2);
        due.is("count(8)", x.count(8), -1);
        due.is("count(-1)", x.count(-1), -1);
        due.is("none again", x.cellar(0), 0);
        due.is("count(0)", x.count(0), 0);
    }

    private static void refused(int p, String text, int fault, int place) {
        UnevenWax x = new UnevenWax();
        int got = p < 0 ? Due.cellar(x, text) : Due.plan(x, p, text);
        due.is(text, got, fault == 0 ? got : -30 - fault);
        due.isTrue(text + " (sign)", fault == 0 == got >= 0);
        due.is(text + " fault", x.fault(0), fault);
        due.is(text + " place", x.fault(1), place);
        due.is(text + " tape", x.count(5), 0);
    }

    private static void cellarFaults() {
        refused(-1, "Candle 5;", 1, 0);
        refused(-1, "candle\t5;", 1, 6);
        refused(-1, "candle 5\r;", 1, 8);
        refused(-1, "candle -5;", 1, 7);
        refused(-1, "candle 0005;", 1, 7);
        refused(-1, "1000", 1, 0);
        refused(-1, "lamp 1000", 2, 0);
        refused(-1, "candle 5 wax 1000;", 1, 13);
        refused(-1, "5;", 2, 0);
        refused(-1, ";", 2, 0);
        refused(-1, "candles 5;", 2, 0);
        refused(-1, "xandle 5;", 2, 0);
        refused(-1, "z", 2, 0);
        refused(-1, "a", 2, 0);
        refused(-1, "`", 1, 0);
        refused(-1, "{", 1, 0);
        refused(-1, "/", 1, 0);
        refused(-1, ":", 1, 0);
        refused(-1, "candle 5;;", 2, 9);
        refused(-1, "candle wax 5;", 2, 7);
        refused(-1, "candle 5 wax;", 2, 12);
        refused(-1, "candle 5 wax 5 6;", 2, 15);
        refused(-1, "candle 5 wax 5 wax 6;", 2, 15);
        refused(-1, "candle 5 draught 5 6;", 2, 19);
        refused(-1, "candle 5 draught 5 draught 6;", 2, 19);
        refused(-1, "candle 5 candle 6;", 2, 9);
        refused(-1, "candle 5 ;candle", 2, 16);
        refused(-1, "candle 5 wax   ", 2, 15);
        refused(-1, "candle", 2, 6);
        refused(-1, "candle 5;candle 61;", 3, 16);
        refused(-1, "candle 000;", 3, 7);
        refused(-1, "candle 5 wax 000;", 3, 13);
        refused(-1, "candle 5 draught 051;", 3, 17);
        refused(-1, "candle 1 1 1 1 1 1 1000;", 1, 19);
        refused(-1, "candle 1 1 1 1 1 1 0;", 3, 19);
        refused(-1, "candle 1 1 1 1 1 1 60;", 4, 19);
        refused(-1, "candle 1 1 1 1 1 1;", 0, -1);
        String eight = "candle 5;".repeat(8);
        refused(-1, eight, 0, -1);
        refused(-1, eight + "lamp", 2, 72);
        refused(-1, eight + "?", 1, 72);
        refused(-1, eight + " candle 0;", 4, 73);
    }

    private static void planFaults() {
        refused(1, "first bell", 2, 10);
        refused(1, "first", 2, 5);
        refused(1, "first bell and", 2, 14);
        refused(1, "first bell bell;", 2, 11);
        refused(1, "first bell 1;", 2, 11);
        refused(1, "first and bell;", 2, 6);
        refused(1, "ends bell;", 2, 5);
        refused(1, "ends 1;", 2, 6);
        refused(1, "ends 1 2 bell;", 2, 7);
        refused(1, "first 1 bell;", 2, 6);
        refused(1, "first light 1 1;", 2, 14);
        refused(1, "first join 1 bell;", 2, 13);
        refused(1, "first join 1 8;", 3, 13);
        refused(1, "first join 8 1;", 3, 11);
        refused(1, "first both 999;", 3, 11);
        refused(1, "first out 0007;", 1, 10);
        refused(1, "first ring;", 2, 6);
        refused(1, "first candle 1;", 2, 6);
        refused(1, "candle 1;", 2, 0);
        refused(1, "first bell.", 1, 10);
        refused(1, "first bell;ends 7 join 007 0and out 3;\n first both7;", 0, -1);
    }

    private static void limits() {
        String twenty = "first bell;".repeat(20);
        refused(3, twenty, 0, -1);
        refused(3, twenty + "ends 9 bell;", 4, 220);
        refused(3, twenty + "bell;", 2, 220);
        String forty = "first bell" + " and bell".repeat(39);
        refused(3, forty + ";", 0, -1);
        refused(3, forty + " and light 9;", 4, forty.length() + 5);
        refused(3, forty + " and 9;", 2, forty.length() + 5);
        refused(3, forty + ";ends 8 bell;", 3, forty.length() + 6);
        refused(3, forty + ";ends 7 bell;", 4, forty.length() + 8);
        UnevenWax x = new UnevenWax();
        due.is("twenty rules", Due.plan(x, 3, twenty), 20);
        due.is("count(4)", x.count(4), 20);
        due.is("forty acts", Due.plan(x, 3, forty + ";"), 1);
        due.is("forty bells", x.run(3, 0), 40);
    }

    private static void faultAndWhatStays() {
        UnevenWax x = Due.of("candle 10;", "first light 0;ends 0 bell;");
        due.is("a cellar with a fault", Due.cellar(x, "candle 20;candle 70;"), -33);
        due.is("what there was stays", x.candle(0, 1), 10);
        due.is("so many as there were", x.count(0), 1);
        due.is("a plan with a fault", Due.plan(x, 0, "first bell;first bell;first bells;"), -32);
        due.is("the plan stays", x.count(1), 2);
        due.is("the run stays", x.bell(0, 0), 2560);
        due.is("a refused call", x.cellar(1), -3);
        due.is("leaves the fault", x.fault(0), 2);
        due.is("and its place", x.fault(1), 28);
        due.is("a new cellar", Due.cellar(x, "candle 20;"), 1);
        due.is("no fault", x.fault(0), 0);
        due.is("no place", x.fault(1), -1);
        due.is("plans stay", x.bell(0, 0), 5120);
    }

    private static void candles() {
        UnevenWax x = Due.of("candle 3 4 5 6 7 8 wax 70 draught 9;candle 60;");
        due.is("pieces", x.candle(0, 0), 6);
        due.is("minutes", x.candle(0, 1), 33);
        due.is("wax", x.candle(0, 2), 70);
        due.is("draught", x.candle(0, 3), 9);
        for (int k = 0; k < 6; k++) {
            due.is("piece " + k, x.candle(0, 10 + k), 3 + k);
        }
        due.is("wax without", x.candle(1, 2), 60);
        due.is("draught without", x.candle(1, 3), 0);
        int[] others = {-1, 4, 9, 16, Integer.MAX_VALUE, Integer.MIN_VALUE};
        for (int what : others) {
            due.is("candle(0, " + what + ")", x.candle(0, what), -2);
        }
        due.is("piece of another", x.candle(1, 11), -2);
        Due.cellar(x, "candle 1;candle 2;");
        due.is("no draught of the old one", x.candle(0, 3), 0);
        due.is("no wax of the old one", x.candle(0, 2), 60);
        due.is("candle(2, 0)", x.candle(2, 0), -2);
        due.is("candle(-1, 0)", x.candle(-1, 0), -2);
    }
}
