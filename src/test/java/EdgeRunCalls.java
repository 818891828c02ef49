/** Promises 11 to 23, each with the edges that it names. */
final class EdgeRunCalls {
    private static final int[] NO_PLANS = {-1, 4, Integer.MIN_VALUE, Integer.MAX_VALUE};
    private static final int[] NO_CANDLES = {-1, 2, 7, 8, Integer.MIN_VALUE, Integer.MAX_VALUE};
    private static final int[] NO_BELLS = {-1, -2, 2, 40, Integer.MIN_VALUE, Integer.MAX_VALUE};

    private final Edge edge;
    private UnevenWax x;

    EdgeRunCalls(Edge edge) {
        this.edge = edge;
    }

    void all() {
        run();
        runNone();
        bell();
        bellNone();
        ends();
        endsNone();
        rest();
        restBehind();
        restGone();
        restRefused();
        flames();
        flamesRefused();
        idle();
        vain();
        vainNone();
        spare();
        would();
        wouldNone();
        wouldRefused();
        off();
        offNone();
        offRefused();
        night();
        chime();
        chimeNone();
        daysWax();
        daysTaken();
        daysRefused();
    }

    /** Plan 0 rings at 1280 and 3200, plan 1 at 0 and 0, plan 2 joins, plan 3 is empty. */
    private void about(String sentence) {
        edge.of(sentence);
        x = Due.of("candle 10 wax 100;candle 20 draught 10;",
            "first both 0 and light 1 and out 7;ends 0 bell and light 1;ends 1 bell;ends 7 bell;",
            "first bell and bell;", "first join 0 1 and light 0;ends 0 bell;");
    }

    private void run() {
        about("Of the RUN of a PLAN, what 0: BELLS, 1: the time at which it is over, 2: VAIN ACTS, 3: LIT, 4: WAX.");
        int[] first = {2, 3200, 1, 4, 160};
        int[] second = {2, 0, 0, 0, 0};
        for (int what = 0; what < 5; what++) {
            edge.is("run(0, " + what + ")", x.run(0, what), first[what]);
            edge.is("run(1, " + what + ")", x.run(1, what), second[what]);
            edge.is("run(3, " + what + ") of an empty one", x.run(3, what), 0);
        }
    }

    private void runNone() {
        about("4: WAX. -2.");
        for (int p : NO_PLANS) {
            edge.is("run(" + p + ", 0)", x.run(p, 0), -2);
        }
        int[] whats = {-1, 5, Integer.MIN_VALUE, Integer.MAX_VALUE};
        for (int what : whats) {
            edge.is("run(0, " + what + ")", x.run(0, what), -2);
        }
    }

    private void bell() {
        about("BELL k of a PLAN.");
        edge.is("the first", x.bell(0, 0), 1280);
        edge.is("the last", x.bell(0, 1), 3200);
        edge.is("at 0", x.bell(1, 1), 0);
        edge.is("of a joined one", x.bell(2, 0), 7680);
    }

    private void bellNone() {
        about("BELL k of a PLAN. NONE: not so many; -2.");
        for (int k : NO_BELLS) {
            edge.is("bell(0, " + k + ")", x.bell(0, k), -1);
        }
        edge.is("of an empty one", x.bell(3, 0), -1);
        for (int p : NO_PLANS) {
            edge.is("bell(" + p + ", 0)", x.bell(p, 0), -2);
            edge.is("bell(" + p + ", -1)", x.bell(p, -1), -2);
        }
    }

    private void ends() {
        about("When a CANDLE ends in a RUN. NONE: it doesn't, or it was joined to another one;");
        edge.is("ends", x.ends(0, 0), 1280);
        edge.is("ends later", x.ends(0, 1), 3200);
        edge.is("nothing burns", x.ends(1, 0), -1);
        edge.is("of an empty plan", x.ends(3, 1), -1);
        edge.is("the one that it was joined to", x.ends(2, 0), 7680);
        edge.is("joined", x.ends(2, 1), -1);
        UnevenWax y = Due.of("candle 10;candle 20;", "first light 0 and light 1;ends 0 out 1;");
        edge.is("put out", y.ends(0, 1), -1);
    }

    private void endsNone() {
        about("-2: the PLAN, CANDLE.");
        for (int p : NO_PLANS) {
            edge.is("ends(" + p + ", 0)", x.ends(p, 0), -2);
        }
        for (int c : NO_CANDLES) {
            edge.is("ends(0, " + c + ")", x.ends(0, c), -2);
        }
        edge.is("without candles", new UnevenWax().ends(0, 0), -2);
    }

    private void rest() {
        about("REST of a CANDLE at a time of a RUN (behind all that is done then;");
        edge.is("at 0", x.rest(0, 0, 0), 2560);
        edge.is("a spark later", x.rest(0, 0, 1), 2558);
        edge.is("a spark before its end", x.rest(0, 0, 1279), 2);
        edge.is("at its end", x.rest(0, 0, 1280), 0);
        edge.is("the other one then", x.rest(0, 1, 1280), 3840);
        edge.is("by two from then on", x.rest(0, 1, 1281), 3838);
        edge.is("joined at 0, seen at 0", x.rest(2, 0, 0), 7680);
        UnevenWax y = Due.of("candle 10;candle 20;candle 30;", "first light 0;ends 0 join 1 2;");
        edge.is("joined at an end, seen before", y.rest(0, 1, 2559), 5120);
        edge.is("joined at an end, seen then", y.rest(0, 1, 2560), 12800);
    }

    private void restBehind() {
        about("behind its end as at its end)");
        edge.is("a spark behind", x.rest(0, 1, 3201), 0);
        edge.is("the latest time", x.rest(0, 1, Integer.MAX_VALUE), 0);
        UnevenWax y = Due.of("candle 10;candle 20;", "first light 0 and light 1;ends 0 out 1;", "");
        edge.is("put out, at its end", y.rest(0, 1, 2560), 2560);
        edge.is("a spark behind", y.rest(0, 1, 2561), 2560);
        edge.is("the latest time", y.rest(0, 1, Integer.MAX_VALUE), 2560);
        edge.is("of an empty plan", y.rest(1, 1, Integer.MAX_VALUE), 5120);
        int[] late = {4000000, 4000001, 8388607, 8388608, 16777216};
        for (int time : late) {
            edge.is("at " + time, y.rest(0, 1, time), 2560);
        }
    }

    private void restGone() {
        about("0 for one that is gone.");
        edge.is("from 0 on", x.rest(2, 1, 0), 0);
        edge.is("all the time", x.rest(2, 1, 5000), 0);
        edge.is("at last", x.rest(2, 1, Integer.MAX_VALUE), 0);
        UnevenWax y = Due.of("candle 10;candle 20;candle 30;", "first light 0;ends 0 join 1 2;");
        edge.is("not yet", y.rest(0, 2, 2559), 7680);
        edge.is("from an end on", y.rest(0, 2, 2560), 0);
    }

    private void restRefused() {
        about("0 for one that is gone. -2; -3: the time is below 0.");
        for (int p : NO_PLANS) {
            edge.is("plan " + p, x.rest(p, 0, 0), -2);
            edge.is("plan " + p + " is told first", x.rest(p, 0, -1), -2);
        }
        for (int c : NO_CANDLES) {
            edge.is("candle " + c, x.rest(0, c, 0), -2);
            edge.is("candle " + c + " is told first", x.rest(0, c, -1), -2);
        }
        edge.is("-1", x.rest(0, 0, -1), -3);
        edge.is("the least", x.rest(0, 0, Integer.MIN_VALUE), -3);
    }

    private void flames() {
        about("Its FLAMES then, likewise.");
        edge.is("at 0", x.flames(0, 0, 0), 2);
        edge.is("a spark before its end", x.flames(0, 0, 1279), 2);
        edge.is("at its end", x.flames(0, 0, 1280), 0);
        edge.is("the other before", x.flames(0, 1, 1279), 1);
        edge.is("the other then", x.flames(0, 1, 1280), 2);
        edge.is("a spark before all is over", x.flames(0, 1, 3199), 2);
        edge.is("when all is over", x.flames(0, 1, 3200), 0);
        edge.is("the latest time", x.flames(0, 1, Integer.MAX_VALUE), 0);
        edge.is("one that is gone", x.flames(2, 1, 0), 0);
        edge.is("of an empty plan", x.flames(3, 0, 0), 0);
    }

    private void flamesRefused() {
        about("`int flames(int p, int c, int time)`: Its FLAMES then, likewise.");
        for (int p : NO_PLANS) {
            edge.is("plan " + p, x.flames(p, 0, 0), -2);
            edge.is("plan " + p + " is told first", x.flames(p, 0, -1), -2);
        }
        for (int c : NO_CANDLES) {
            edge.is("candle " + c, x.flames(0, c, 0), -2);
            edge.is("candle " + c + " is told first", x.flames(0, c, -1), -2);
        }
        edge.is("-1", x.flames(0, 0, -1), -3);
        edge.is("the least", x.flames(0, 0, Integer.MIN_VALUE), -3);
    }

    private void idle() {
        about("IDLE RULES, as bits. -2.");
        edge.is("the last of four", x.idle(0), 8);
        edge.is("none", x.idle(1), 0);
        edge.is("of an empty plan", x.idle(3), 0);
        for (int p : NO_PLANS) {
            edge.is("plan " + p, x.idle(p), -2);
        }
    }

    private void vain() {
        about("The k-th VAIN ACT of a RUN, the least number first (from 0 on through all RULES).");
        UnevenWax y = Due.of("candle 10;", "ends 0 out 0 and bell and light 0;first light 0 and out 7 and join 0 0;ends 7 out 7;");
        int[] want = {0, 2, 4, 5};
        for (int k = 0; k < want.length; k++) {
            edge.is("vain " + k, y.vain(0, k), want[k]);
        }
        UnevenWax z = Due.of("", "first " + "out 0and ".repeat(39) + "out 0;");
        edge.is("the fortieth", z.vain(0, 39), 39);
        edge.is("how many", z.run(0, 2), 40);
        edge.is("no more", z.vain(0, 40), -1);
    }

    private void vainNone() {
        about("(from 0 on through all RULES). NONE: not so many; -2.");
        int[] none = {-1, -2, 1, 40, 63, 64, Integer.MIN_VALUE, Integer.MAX_VALUE};
        for (int k : none) {
            edge.is("vain(0, " + k + ")", x.vain(0, k), -1);
        }
        edge.is("the one", x.vain(0, 0), 2);
        edge.is("of an empty plan", x.vain(3, 0), -1);
        for (int p : NO_PLANS) {
            edge.is("vain(" + p + ", 0)", x.vain(p, 0), -2);
        }
    }

    private void spare() {
        about("The k-th SPARE ACT. NONE; -2.");
        // Out of 7, and the bell of candle 7 that never ends.
        edge.is("the first", x.spare(0, 0), 2);
        edge.is("the second", x.spare(0, 1), 6);
        int[] none = {-1, -2, 2, 40, Integer.MIN_VALUE, Integer.MAX_VALUE};
        for (int k : none) {
            edge.is("spare(0, " + k + ")", x.spare(0, k), -1);
        }
        edge.is("of an empty plan", x.spare(3, 0), -1);
        for (int p : NO_PLANS) {
            edge.is("spare(" + p + ", 0)", x.spare(p, 0), -2);
        }
    }

    private void would() {
        about("BELL k, if a CANDLE's REST at first were so many SPARKS more (or less, below 0).");
        edge.is("none more", x.would(0, 1, 1, 0), 3200);
        edge.is("two more", x.would(0, 1, 1, 2), 3201);
        edge.is("two less", x.would(0, 1, 1, -2), 3199);
        edge.is("one more is cut", x.would(0, 1, 1, 1), 3200);
        edge.is("one less is cut", x.would(0, 1, 1, -1), 3199);
        edge.is("the other bell stays", x.would(0, 0, 1, 512), 1280);
        edge.is("of the joined one", x.would(2, 0, 1, -5119), 2561);
        edge.is("what was told stays", x.bell(0, 1), 3200);
        edge.is("and so does its REST", x.rest(0, 1, 0), 5120);
    }

    private void wouldNone() {
        about("(or less, below 0). NONE: not so many BELLS;");
        for (int k : NO_BELLS) {
            edge.is("would(0, " + k + ", 0, 0)", x.would(0, k, 0, 0), -1);
        }
        edge.is("of an empty plan", x.would(3, 0, 0, 0), -1);
        UnevenWax y = Due.of("candle 10;candle 10;", "first light 0 and light 1;ends 0 bell;ends 1 out 0;");
        edge.is("as told it rings", y.would(0, 0, 0, 0), 2560);
        edge.is("a spark more, and it is put out", y.would(0, 0, 0, 1), -1);
        edge.is("a spark less rings", y.would(0, 0, 0, -1), 2559);
    }

    private void wouldRefused() {
        about("-2: the PLAN, CANDLE; -3: its REST would not be 1 to 200000.");
        for (int p : NO_PLANS) {
            edge.is("plan " + p, x.would(p, 0, 0, 0), -2);
            edge.is("plan " + p + " is told first", x.would(p, 0, 0, -2560), -2);
        }
        for (int c : NO_CANDLES) {
            edge.is("candle " + c, x.would(0, 0, c, 0), -2);
            edge.is("candle " + c + " is told first", x.would(0, 0, c, Integer.MIN_VALUE), -2);
        }
        edge.is("1", x.would(0, 0, 0, -2559), 0);
        edge.is("0", x.would(0, 0, 0, -2560), -3);
        edge.is("-1", x.would(0, 0, 0, -2561), -3);
        edge.is("200000", x.would(2, 0, 0, 200000 - 2560), 200000 + 5120);
        edge.is("200001", x.would(2, 0, 0, 200001 - 2560), -3);
        edge.is("the most", x.would(0, 0, 0, Integer.MAX_VALUE), -3);
        edge.is("the least", x.would(0, 0, 0, Integer.MIN_VALUE), -3);
        edge.is("-3 though there are not so many bells", x.would(0, 9, 0, -2560), -3);
        UnevenWax y = Due.of("candle 60 60 60 60 60 60;".repeat(8), "first join 0 1 and join 0 2 and join 0 3 and join 0 4 and join 0 5 and join 0 6 and join 0 7 and light 0;ends 0 bell;");
        edge.is("the latest bell of all", y.would(0, 0, 7, 200000 - 92160), 7 * 92160 + 200000);
    }

    private void off() {
        about("OFF of BELL k: the least (what 0), the greatest time (1).");
        edge.is("bell 0, least", x.off(0, 0, 0), 1280);
        edge.is("bell 0, greatest", x.off(0, 0, 1), 1280);
        edge.is("bell 1, least", x.off(0, 1, 0), 3200 - 256);
        edge.is("bell 1, greatest", x.off(0, 1, 1), 3200 + 256);
        edge.is("of another plan", x.off(2, 0, 1), 7680 + 512);
        edge.is("of the first plan again", x.off(0, 1, 1), 3456);
        Due.plan(x, 0, "first both 1;ends 1 bell;");
        edge.is("of a new plan in its place", x.off(0, 0, 1), 2816);
        UnevenWax z = Due.of("candle 10 draught 50;".repeat(8), "first light 0;ends 0 light 7;ends 7 bell;");
        edge.is("of eight draughts, least", z.off(0, 0, 0), 2560);
        edge.is("of eight draughts, greatest", z.off(0, 0, 1), 7680);
        Due.plan(z, 0, "first join 0 1 and join 0 2 and join 0 3 and join 0 4 and join 0 5 and join 0 6 and join 0 7 and light 0;ends 0 bell;");
        edge.is("of eight draughts in one, least", z.off(0, 0, 0), 8 * 1280);
        edge.is("of eight draughts in one, greatest", z.off(0, 0, 1), 8 * 3840);
        UnevenWax y = Due.of("", "first bell" + " and bell".repeat(39) + ";");
        edge.is("the fortieth", y.off(0, 39, 1), 0);
        edge.is("no 41st", y.off(0, 40, 1), -1);
    }

    private void offNone() {
        about("the greatest time (1). NONE: no RUN rings so often;");
        int[] none = {2, 39, 40, 41, Integer.MAX_VALUE};
        for (int k : none) {
            edge.is("off(0, " + k + ", 0)", x.off(0, k, 0), -1);
            edge.is("off(0, " + k + ", 1)", x.off(0, k, 1), -1);
        }
        edge.is("of an empty plan", x.off(3, 0, 0), -1);
    }

    private void offRefused() {
        about("-2: the PLAN, what; -3: k is below 0.");
        for (int p : NO_PLANS) {
            edge.is("plan " + p, x.off(p, 0, 0), -2);
            edge.is("plan " + p + " is told first", x.off(p, -1, 0), -2);
        }
        int[] whats = {-1, 2, Integer.MIN_VALUE, Integer.MAX_VALUE};
        for (int what : whats) {
            edge.is("what " + what, x.off(0, 0, what), -2);
            edge.is("what " + what + " is told first", x.off(0, -1, what), -2);
        }
        edge.is("-1", x.off(0, -1, 0), -3);
        edge.is("the least", x.off(3, Integer.MIN_VALUE, 1), -3);
    }

    private void night() {
        about("A NIGHT of a PLAN: BELL k. NONE: not so many; -2.");
        edge.is("bell 0", x.night(0, 0, 0), 1280);
        for (int k : NO_BELLS) {
            edge.is("night(0, 5, " + k + ")", x.night(0, 5, k), -1);
        }
        edge.is("of an empty plan", x.night(3, 5, 0), -1);
        edge.is("without candles", Due.of("", "first bell;").night(0, 5, 0), 0);
        for (int p : NO_PLANS) {
            edge.is("night(" + p + ", 0, 0)", x.night(p, 0, 0), -2);
        }
    }

    private void chime() {
        about("How many times two RUNS RING at one moment (each pair of BELLS once).");
        UnevenWax y = Due.of("candle 10;candle 20;candle 1;", "first bell and bell and light 0;ends 0 bell;", "first bell and bell and bell and both 1;ends 1 bell and light 2;ends 2 bell;",
            "first light 2;ends 2 bell;");
        edge.is("two by three, and one", y.chime(0, 1), 7);
        edge.is("the other way round", y.chime(1, 0), 7);
        edge.is("with itself", y.chime(0, 0), 5);
        edge.is("never", y.chime(0, 2), 0);
        edge.is("with an empty one", y.chime(0, 3), 0);
        edge.is("empty ones", y.chime(3, 3), 0);
        UnevenWax z = Due.of("", "first bell" + " and bell".repeat(39) + ";", "first bell" + " and bell".repeat(39) + ";");
        edge.is("forty by forty", z.chime(0, 1), 1600);
    }

    private void chimeNone() {
        about("(each pair of BELLS once). -2.");
        for (int p : NO_PLANS) {
            edge.is("chime(" + p + ", 0)", x.chime(p, 0), -2);
            edge.is("chime(0, " + p + ")", x.chime(0, p), -2);
            edge.is("chime(" + p + ", " + p + ")", x.chime(p, p), -2);
        }
    }

    private void daysWax() {
        about("Of so many days (1 to 400) of a PLAN, what NONE: WAX of all together (that of one times the days)");
        edge.is("one day", x.days(0, 1, -1), 160);
        edge.is("400 days", x.days(0, 400, -1), 64000);
        edge.is("0 days", x.days(0, 0, -1), -3);
        edge.is("401 days", x.days(0, 401, -1), -3);
        edge.is("of an empty plan", x.days(3, 400, -1), 0);
        edge.is("without candles", new UnevenWax().days(0, 400, -1), 0);
        UnevenWax y = Due.of("candle 60 wax 1;candle 59;", "first light 0 and light 1;ends 1 out 0;");
        edge.is("each day is cut by itself", y.days(0, 60, -1), 60 * 60);
    }

    private void daysTaken() {
        about("c: how many CANDLES of number c are taken (a new one each day, if some of its own PIECES burns in the RUN).");
        edge.is("burnt", x.days(0, 400, 0), 400);
        edge.is("one day", x.days(0, 1, 1), 1);
        edge.is("not lit", x.days(1, 400, 0), 0);
        UnevenWax y = Due.of("candle 10;candle 20;candle 1;", "first join 0 1 and light 0 and light 2;ends 2 out 0;", "first light 0 and out 0;",
            "first join 0 1 and light 0;", "first light 0 and both 2;ends 2 out 0;");
        edge.is("some of the first", y.days(0, 7, 0), 7);
        edge.is("none of the joined one's own", y.days(0, 7, 1), 0);
        edge.is("lit for no time", y.days(1, 7, 0), 0);
        edge.is("the joined one's own, too", y.days(2, 7, 1), 7);
        edge.is("half a minute", y.days(3, 7, 0), 7);
    }

    private void daysRefused() {
        about("-2: the PLAN, what; -3: the days.");
        for (int p : NO_PLANS) {
            edge.is("plan " + p, x.days(p, 1, -1), -2);
            edge.is("plan " + p + " is told first", x.days(p, 0, -1), -2);
        }
        int[] whats = {-2, 2, 8, Integer.MIN_VALUE, Integer.MAX_VALUE};
        for (int what : whats) {
            edge.is("what " + what, x.days(0, 1, what), -2);
            edge.is("what " + what + " is told first", x.days(0, 401, what), -2);
        }
        int[] days = {0, -1, 401, Integer.MIN_VALUE, Integer.MAX_VALUE};
        for (int n : days) {
            edge.is(n + " days, wax", x.days(0, n, -1), -3);
            edge.is(n + " days, taken", x.days(0, n, 1), -3);
        }
    }
}
