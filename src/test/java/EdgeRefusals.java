import java.util.function.ToLongFunction;

/** Refused calls: each code, and that nothing is changed by any of them. */
final class EdgeRefusals {
    private static final String EIGHT = "candle 5;".repeat(8);

    private final Edge edge;

    EdgeRefusals(Edge edge) {
        this.edge = edge;
    }

    void all() {
        noneSuch();
        numberCannotBe();
        notNow();
        missing();
        noSuchNumber();
        faultyTexts();
        toldFirst();
        answersChangeNothing();
    }

    /** Image 0 is made, 1 is not; rows 0 and 1 are there, 2 and 3 are missing; the tape is full. */
    private static UnevenWax filled() {
        UnevenWax x = Due.of("candle 9 wax 5 draught 4;candle 8;", "first light 0;ends 0 bell;");
        x.image(0);
        Due.cellar(x, "candle 10 wax 7 draught 3;candle 20;candle 5;");
        Due.plan(x, 1, "first bell and both 1 and out 2;ends 1 bell;");
        Due.plan(x, 2, "first join 0 1 and light 0;ends 0 bell;");
        Due.row(x, 0, 3, 2560, 7);
        Due.row(x, 1, 1, 2560);
        Due.plan(x, 3, "first ring;");
        for (int i = 0; i < 20; i++) {
            x.feed(0x20202020, 0x20202020, 0x20202020, 0x20202020, 0x20202020);
        }
        return x;
    }

    /** What can be asked of an object, in some hundred calls. */
    private static String state(UnevenWax x) {
        StringBuilder all = new StringBuilder();
        for (int what = 0; what < 8; what++) {
            all.append(x.count(what)).append(' ');
        }
        all.append(x.fault(0)).append(' ').append(x.fault(1)).append(' ');
        for (int c = 0; c < 3; c++) {
            for (int what = 0; what < 4; what++) {
                all.append(x.candle(c, what)).append(' ');
            }
        }
        for (int p = 0; p < 4; p++) {
            for (int what = 0; what < 5; what++) {
                all.append(x.run(p, what)).append(' ');
            }
            all.append(x.bell(p, 0)).append(' ').append(x.bell(p, 1)).append(' ').append(x.off(p, 0, 0)).append(' ');
        }
        for (int row = 0; row < 4; row++) {
            all.append(x.log(row)).append(' ').append(x.nearly(row, 3000)).append(' ').append(x.serves(0, row, 0)).append(' ');
            all.append(x.stolen(3, row)).append(' ').append(x.write(row, 2, 1)).append(' ');
        }
        all.append(x.time(3, false, -1)).append(' ').append(x.time(3, true, -1)).append(' ').append(x.alongs(3, -1)).append(' ');
        all.append(x.restore(1)).append(' ').append(x.restore(0)).append(' ').append(x.candle(0, 1)).append(' ').append(x.bell(0, 0));
        return all.toString();
    }

    private void leaves(String call, int answer, ToLongFunction<UnevenWax> how) {
        UnevenWax x = filled();
        edge.is(call, how.applyAsLong(x), answer);
        edge.same(call + " changes nothing", state(x), state(filled()));
    }

    private void noneSuch() {
        edge.of("Refused calls answer by a code and change nothing: -2 there is none such;");
        leaves("plan(4, 0)", -2, x -> x.plan(4, 0));
        leaves("plan(-1, 400)", -2, x -> x.plan(-1, 400));
        leaves("candle(3, 0)", -2, x -> x.candle(3, 0));
        leaves("candle(0, 11)", -2, x -> x.candle(0, 11));
        leaves("length(3, 0)", -2, x -> x.length(3, 0));
        leaves("meet(-1)", -2, x -> x.meet(-1));
        leaves("halves(3)", -2, x -> x.halves(3));
        leaves("piece(3, 0, true)", -2, x -> x.piece(3, 0, true));
        leaves("run(4, 0)", -2, x -> x.run(4, 0));
        leaves("run(0, 5)", -2, x -> x.run(0, 5));
        leaves("bell(4, 0)", -2, x -> x.bell(4, 0));
        leaves("ends(0, 3)", -2, x -> x.ends(0, 3));
        leaves("rest(0, 3, 0)", -2, x -> x.rest(0, 3, 0));
        leaves("flames(4, 0, 0)", -2, x -> x.flames(4, 0, 0));
        leaves("idle(4)", -2, x -> x.idle(4));
        leaves("vain(4, 0)", -2, x -> x.vain(4, 0));
        leaves("spare(-1, 0)", -2, x -> x.spare(-1, 0));
        leaves("would(0, 0, 3, 1)", -2, x -> x.would(0, 0, 3, 1));
        leaves("off(0, 0, 2)", -2, x -> x.off(0, 0, 2));
        leaves("night(4, 1, 0)", -2, x -> x.night(4, 1, 0));
        leaves("chime(0, 4)", -2, x -> x.chime(0, 4));
        leaves("days(0, 1, 3)", -2, x -> x.days(0, 1, 3));
        leaves("least(256, true, 2)", -2, x -> x.least(256, true, 2));
        leaves("together(1, true, 4)", -2, x -> x.together(1, true, 4));
        leaves("leastFor(-1, true)", -2, x -> x.leastFor(-1, true));
        leaves("serves(4, 0, 0)", -2, x -> x.serves(4, 0, 0));
        leaves("fittest(4, 0)", -2, x -> x.fittest(4, 0));
        leaves("log(4)", -2, x -> x.log(4));
        leaves("nearly(4, 0)", -2, x -> x.nearly(4, 0));
        leaves("missed(4, 0, 0)", -2, x -> x.missed(4, 0, 0));
        leaves("stolen(0, 4)", -2, x -> x.stolen(0, 4));
        leaves("numbers(4, 0, 1)", -2, x -> x.numbers(4, 0, 1));
        leaves("numbers(0, 4, 1)", -2, x -> x.numbers(0, 4, 1));
        leaves("numbers(1, -1, 1)", -2, x -> x.numbers(1, -1, 1));
        leaves("write(4, 0, 1)", -2, x -> x.write(4, 0, 1));
        leaves("copy(4, 0)", -2, x -> x.copy(4, 0));
        leaves("copy(0, 4)", -2, x -> x.copy(0, 4));
        leaves("image(2)", -2, x -> x.image(2));
        leaves("image(-1)", -2, x -> x.image(-1));
        leaves("restore(2)", -2, x -> x.restore(2));
        leaves("restore(-1)", -2, x -> x.restore(-1));
    }

    private void numberCannotBe() {
        edge.of("-3 a number can't be;");
        leaves("cellar(401)", -3, x -> x.cellar(401));
        leaves("cellar(-1)", -3, x -> x.cellar(-1));
        leaves("plan(0, 401)", -3, x -> x.plan(0, 401));
        leaves("plan(0, -1)", -3, x -> x.plan(0, -1));
        leaves("length(0, 2561)", -3, x -> x.length(0, 2561));
        leaves("piece(0, -1, false)", -3, x -> x.piece(0, -1, false));
        leaves("rest(0, 0, -1)", -3, x -> x.rest(0, 0, -1));
        leaves("flames(0, 0, -1)", -3, x -> x.flames(0, 0, -1));
        leaves("would(0, 0, 0, -2560)", -3, x -> x.would(0, 0, 0, -2560));
        leaves("would(0, 0, 0, 200000)", -3, x -> x.would(0, 0, 0, 200000));
        leaves("off(0, -1, 0)", -3, x -> x.off(0, -1, 0));
        leaves("days(0, 0, 0)", -3, x -> x.days(0, 0, 0));
        leaves("days(0, 401, 0)", -3, x -> x.days(0, 401, 0));
        leaves("can(8, true, 256)", -3, x -> x.can(8, true, 256));
        leaves("can(1, true, 0)", -3, x -> x.can(1, true, 0));
        leaves("time(0, true, 0)", -3, x -> x.time(0, true, 0));
        leaves("between(1, true, 0)", -3, x -> x.between(1, true, 0));
        leaves("least(0, true, 0)", -3, x -> x.least(0, true, 0));
        leaves("fewest(9, true, 1)", -3, x -> x.fewest(9, true, 1));
        leaves("burnt(1, true, -5)", -3, x -> x.burnt(1, true, -5));
        leaves("given(0, true, 1, 0)", -3, x -> x.given(0, true, 1, 0));
        leaves("lacks(1, true, 63, 0)", -3, x -> x.lacks(1, true, 63, 0));
        leaves("together(0, true, 0)", -3, x -> x.together(0, true, 0));
        leaves("nearest(1, true, 0)", -3, x -> x.nearest(1, true, 0));
        leaves("along(7, 256)", -3, x -> x.along(7, 256));
        leaves("along(3, 0)", -3, x -> x.along(3, 0));
        leaves("alongs(8, 0)", -3, x -> x.alongs(8, 0));
        leaves("serves(0, 0, -1)", -3, x -> x.serves(0, 0, -1));
        leaves("fittest(0, -1)", -3, x -> x.fittest(0, -1));
        leaves("nearly(0, -1)", -3, x -> x.nearly(0, -1));
        leaves("numbers(0, 0, 41)", -3, x -> x.numbers(0, 0, 41));
        leaves("numbers(3, 0, -1)", -3, x -> x.numbers(3, 0, -1));
    }

    private void notNow() {
        edge.of("-5 it can't be now;");
        leaves("feed", -5, x -> x.feed(1, 2, 3, 4, 5));
        leaves("restore(1)", -5, x -> x.restore(1));
    }

    private void missing() {
        edge.of("-6 a ROW OF NUMBERS is MISSING;");
        leaves("together(1, true, 2)", -6, x -> x.together(1, true, 2));
        leaves("leastFor(3, true)", -6, x -> x.leastFor(3, true));
        leaves("serves(0, 2, 0)", -6, x -> x.serves(0, 2, 0));
        leaves("fittest(3, 0)", -6, x -> x.fittest(3, 0));
        leaves("log(2)", -6, x -> x.log(2));
        leaves("nearly(3, 0)", -6, x -> x.nearly(3, 0));
        leaves("missed(0, 2, -1)", -6, x -> x.missed(0, 2, -1));
        leaves("stolen(0, 3)", -6, x -> x.stolen(0, 3));
        leaves("write(2, 0, 1)", -6, x -> x.write(2, 0, 1));
        leaves("copy(0, 3)", -6, x -> x.copy(0, 3));
    }

    private void noSuchNumber() {
        edge.of("-7 it has no such number;");
        leaves("write(0, 2, 1)", -7, x -> x.write(0, 2, 1));
        leaves("write(0, -1, 1)", -7, x -> x.write(0, -1, 1));
        leaves("write(1, 1, 1)", -7, x -> x.write(1, 1, 1));
        leaves("copy(1, 1)", -7, x -> x.copy(1, 1));
    }

    /** A text that is read leaves the tape empty and its fault told; all else is as it was. */
    private void faultyTexts() {
        edge.of("-30 less the FAULT: a text.");
        String[] cellars = {"candle 1;?", "candle 1;;", "candle 1;candle 0;", EIGHT + "candle 5;"};
        int[] cellarPlaces = {9, 9, 16, 72};
        String[] plans = {"first bell;?", "first bell;;", "first bell;ends 8 bell;", "first bell;".repeat(21)};
        int[] planPlaces = {11, 11, 16, 220};
        for (int i = 0; i < 4; i++) {
            faulty(-1, cellars[i], 1 + i, cellarPlaces[i]);
            for (int p = 0; p < 4; p++) {
                faulty(p, plans[i], 1 + i, planPlaces[i]);
            }
        }
    }

    private void faulty(int p, String text, int kind, int place) {
        UnevenWax x = emptied();
        edge.is(text, p < 0 ? Due.cellar(x, text) : Due.plan(x, p, text), -30 - kind);
        edge.is(text + " fault(0)", x.fault(0), kind);
        edge.is(text + " fault(1)", x.fault(1), place);
        edge.same(text + " changes nothing else", behindFault(state(x)), behindFault(state(emptied())));
    }

    /** The object with an empty tape: all its blanks are plan 3, which is empty then as before. */
    private static UnevenWax emptied() {
        UnevenWax x = filled();
        x.plan(3, 400);
        return x;
    }

    /** A state without the fault and its place, which are the ninth and tenth words. */
    private static String behindFault(String state) {
        String[] words = state.split(" ", 11);
        words[8] = "";
        words[9] = "";
        return String.join(" ", words);
    }

    private void toldFirst() {
        edge.of("(Of several that which the call tells first.)");
        UnevenWax x = filled();
        edge.is("plan: -2 ahead of -3", x.plan(4, 401), -2);
        edge.is("plan: -3 ahead of a fault", x.plan(3, 401), -3);
        edge.is("length: -2 ahead of -3", x.length(3, -1), -2);
        edge.is("piece: -2 ahead of -3", x.piece(3, -1, true), -2);
        edge.is("rest: -2 ahead of -3", x.rest(0, 3, -1), -2);
        edge.is("flames: -2 ahead of -3", x.flames(4, 0, -1), -2);
        edge.is("would: -2 ahead of -3", x.would(0, 0, 3, -999999), -2);
        edge.is("off: -2 ahead of -3", x.off(0, -1, 2), -2);
        edge.is("days: -2 ahead of -3", x.days(0, 0, 3), -2);
        edge.is("least: -2 ahead of -3", x.least(0, true, 2), -2);
        edge.is("together: -2 ahead of -3", x.together(0, true, 4), -2);
        edge.is("together: -6 ahead of -3", x.together(0, true, 3), -6);
        edge.is("serves: -2 ahead of -6", x.serves(4, 3, 0), -2);
        edge.is("serves: -2 ahead of -3", x.serves(0, 4, -1), -2);
        edge.is("serves: -6 ahead of -3", x.serves(0, 3, -1), -6);
        edge.is("fittest: -2 ahead of -3", x.fittest(4, -1), -2);
        edge.is("fittest: -6 ahead of -3", x.fittest(3, -1), -6);
        edge.is("nearly: -2 ahead of -3", x.nearly(4, -1), -2);
        edge.is("nearly: -6 ahead of -3", x.nearly(3, -1), -6);
        edge.is("missed: -2 ahead of -6", x.missed(4, 3, 0), -2);
        edge.is("stolen: -2 ahead of -6", x.stolen(4, 3), -2);
        edge.is("numbers: -2 ahead of -3", x.numbers(0, 4, 41), -2);
        edge.is("write: -2 ahead of -7", x.write(4, -1, 0), -2);
        edge.is("write: -6 ahead of -7", x.write(3, -1, 0), -6);
        edge.is("copy: -2 ahead of -6", x.copy(4, 3), -2);
        edge.is("copy: -6 ahead of -7", x.copy(1, 3), -6);
    }

    /** Calls that only answer leave all as it is, whatever they work out. */
    private void answersChangeNothing() {
        edge.of("Refused calls answer by a code and change nothing:");
        leaves("spare(1, 9): answers NONE", -1, x -> x.spare(1, 9));
        leaves("would(0, 0, 0, 99): answers a time", 2659, x -> x.would(0, 0, 0, 99));
        leaves("off(1, 0, 1): answers a time", 0, x -> x.off(1, 0, 1));
        leaves("rest(0, 0, 5): answers a rest", 2555, x -> x.rest(0, 0, 5));
        leaves("leastFor(0, true): answers NONE", -1, x -> x.leastFor(0, true));
        leaves("least(35 minutes): answers a set", 7, x -> x.least(35 * 256, true, 1));
        leaves("time of another set", 2, x -> x.time(4, true, -1));
        leaves("alongs of another set", 2, x -> x.alongs(4, -1));
        leaves("fittest(0, 0): answers a plan", 0, x -> x.fittest(0, 0));
    }
}
