/** Sentences about runs of plans, as the terms tell them. */
final class EdgeRuns {
    private static final String TWENTY_BELLS = "bell" + " and bell".repeat(19);

    private final Edge edge;

    EdgeRuns(Edge edge) {
        this.edge = edge;
    }

    void all() {
        firstRules();
        endsAtOneMoment();
        rulesOfOneCandle();
        over();
        burning();
        givingFlames();
        joining();
        ringing();
        vainOfNone();
        vainOfTwoFlames();
        vainOut();
        vainJoin();
        wholeSparks();
        bells();
        lit();
        waxBurnt();
        waxOfJoined();
        waxDownwards();
        idleRules();
        spareActs();
        offWays();
        offBells();
        offDownwards();
        nightDraws();
        nightRests();
        nightDownwards();
    }

    private void firstRules() {
        edge.of("A RUN of a PLAN: at time 0 all RULES first are done, in order;");
        UnevenWax x = Due.of("candle 10;", "first light 0;ends 0 bell;first out 0;first both 0;", "first out 0;first light 0;first bell;", "ends 0 bell;");
        edge.is("one, none, two", x.run(0, 3), 3);
        edge.is("in order none is vain", x.run(0, 2), 0);
        edge.is("two burn then", x.bell(0, 0), 1280);
        edge.is("out comes first here", x.vain(1, 0), 0);
        edge.is("and light behind it", x.run(1, 1), 2560);
        edge.is("at time 0", x.bell(1, 0), 0);
        edge.is("no rule first", x.run(2, 1), 0);
        edge.is("no bell then", x.run(2, 0), 0);
    }

    private void endsAtOneMoment() {
        edge.of("whenever CANDLES end (REST 0), of those that end at that moment, the least number first");
        UnevenWax x = Due.of("candle 10;candle 10;candle 10;candle 10;",
            "ends 2 out 3;ends 1 light 3;ends 0 both 3;first light 2 and light 1 and light 0;",
            "ends 2 light 0 and out 1;ends 0 out 2 and both 1 and join 3 1;first light 0 and light 1 and light 2;ends 1 join 3 2;");
        edge.is("both, then light in vain, then out", x.run(0, 2), 1);
        edge.is("light is the vain one", x.vain(0, 0), 1);
        edge.is("lit", x.run(0, 3), 5);
        edge.is("out at last", x.run(0, 1), 2560);
        edge.is("nothing burnt of it", x.rest(0, 3, 9999), 2560);
        edge.is("all that end then have ended for all of their rules", x.run(1, 2), 6);
        for (int c = 0; c < 3; c++) {
            edge.is("end of " + c, x.ends(1, c), 2560);
        }
        UnevenWax y = Due.of("candle 10;candle 20;candle 5;", "first both 1 and light 0 and light 2;ends 2 light 2;ends 1 bell;ends 0 bell and bell;");
        edge.is("by other flames at the same moment", y.bell(0, 0), 2560);
        edge.is("three bells", y.bell(0, 2), 2560);
        edge.is("one that ended before is not lit again", y.ends(0, 2), 1280);
    }

    private void rulesOfOneCandle() {
        edge.of("all its RULES ends, in order.");
        UnevenWax x = Due.of("candle 10;candle 20;", "ends 0 light 1;first light 0;ends 0 out 1;ends 1 bell;ends 0 both 1 and bell;ends 0 bell;");
        edge.is("none is vain", x.run(0, 2), 0);
        edge.is("lit", x.run(0, 3), 1 + 1 + 2);
        edge.is("two bells at its end", x.bell(0, 1), 2560);
        edge.is("the other's bell", x.bell(0, 2), 2560 + 2560);
        edge.is("once each", x.run(0, 0), 3);
    }

    private void over() {
        edge.of("It is over when nothing burns.");
        UnevenWax x = Due.of("candle 10;candle 20;candle 30;", "first light 0 and light 1;ends 0 out 1;ends 1 bell;",
            "first bell;", "first light 0 and out 0;ends 0 bell;", "first light 0;ends 0 bell and light 1;ends 1 light 2;");
        edge.is("all put out", x.run(0, 1), 2560);
        edge.is("no bell", x.run(0, 0), 0);
        edge.is("nothing lit", x.run(1, 1), 0);
        edge.is("lit and put out at once", x.run(2, 1), 0);
        edge.is("no bell of it", x.run(2, 0), 0);
        edge.is("what is lit as one ends goes on", x.run(3, 1), 60 * 256);
    }

    private void burning() {
        edge.of("A CANDLE burns at 0, 1 or 2 ends (FLAMES): its REST is less by as many SPARKS each SPARK.");
        UnevenWax x = Due.of("candle 10;candle 10;candle 10;", "first light 1 and both 2;");
        for (int c = 0; c < 3; c++) {
            edge.is("flames of " + c, x.flames(0, c, 0), c);
            edge.is("at 0: " + c, x.rest(0, c, 0), 2560);
            edge.is("at 1: " + c, x.rest(0, c, 1), 2560 - c);
            edge.is("at 1279: " + c, x.rest(0, c, 1279), 2560 - 1279 * c);
        }
        edge.is("none never ends", x.ends(0, 0), -1);
        edge.is("one", x.ends(0, 1), 2560);
        edge.is("two", x.ends(0, 2), 1280);
    }

    private void givingFlames() {
        edge.of("light: one FLAME more; both: two FLAMES; out: none;");
        UnevenWax x = Due.of("candle 10;", "first light 0;", "first light 0 and light 0;", "first both 0;", "first light 0 and both 0;");
        edge.is("light", x.flames(0, 0, 0), 1);
        edge.is("light, light", x.flames(1, 0, 0), 2);
        edge.is("both", x.flames(2, 0, 0), 2);
        edge.is("light, both", x.flames(3, 0, 0), 2);
        edge.is("none of these is vain", x.run(0, 2) + x.run(1, 2) + x.run(2, 2) + x.run(3, 2), 0);
        Due.plan(x, 0, "first light 0 and out 0;");
        Due.plan(x, 1, "first both 0 and out 0;");
        Due.plan(x, 2, "first both 0 and out 0 and light 0;");
        edge.is("light, out", x.flames(0, 0, 0), 0);
        edge.is("both, out", x.flames(1, 0, 0), 0);
        edge.is("both, out, light", x.flames(2, 0, 0), 1);
        edge.is("none of these is vain", x.run(0, 2) + x.run(1, 2) + x.run(2, 2), 0);
    }

    private void joining() {
        edge.of("join: the second one's REST comes to the first one's, the second is gone.");
        UnevenWax x = Due.of("candle 1;candle 60 60 60 60 60 60;candle 4;candle 2;", "first join 0 1 and both 0;ends 0 bell;ends 1 bell;",
            "first light 1 and light 2;ends 2 out 1 and join 1 0 and light 1;ends 1 bell;ends 0 bell;",
            "first light 2 and both 3;ends 3 out 2 and join 0 2 and light 0;ends 0 bell;");
        edge.is("the first one's", x.rest(0, 0, 0), 256 + 92160);
        edge.is("the second one's", x.rest(0, 1, 0), 0);
        edge.is("rings once", x.run(0, 0), 1);
        edge.is("both burn as one", x.bell(0, 0), (256 + 92160) / 2);
        edge.is("some of the first burnt", x.rest(1, 1, 1024), 92160 - 1024 + 256);
        edge.is("before it", x.rest(1, 1, 1023), 92160 - 1023);
        edge.is("before it, the second", x.rest(1, 0, 1023), 256);
        edge.is("from then on, the second", x.rest(1, 0, 1024), 0);
        edge.is("some of the second burnt", x.rest(2, 0, 256), 256 + 1024 - 256);
        edge.is("its bell", x.bell(2, 0), 256 + 1024);
        edge.is("the second ends never", x.ends(2, 2), -1);
    }

    private void ringing() {
        edge.of("bell: it RINGS then.");
        UnevenWax x = Due.of("candle 1;candle 60 60 60 60 60 60;", "first bell and light 0 and bell;ends 0 bell and light 1;ends 1 bell;");
        int[] want = {0, 0, 256, 256 + 92160};
        for (int k = 0; k < want.length; k++) {
            edge.is("bell " + k, x.bell(0, k), want[k]);
        }
        edge.is("without candles", Due.of("", "first bell;").bell(0, 0), 0);
    }

    private void vainOfNone() {
        edge.of("VAIN are ACTS on what isn't there, has ended or is gone;");
        String acts = "light 1 and both 1 and out 1 and join 1 0 and join 0 1";
        UnevenWax x = Due.of("candle 10;", "first " + acts + ";", "first " + acts.replace('1', '7') + ";");
        edge.is("1 isn't there", x.run(0, 2), 5);
        edge.is("7 isn't there", x.run(1, 2), 5);
        x = Due.of("candle 10;candle 5;", "first light 1;ends 1 " + acts + ";", "first join 0 1 and " + acts + ";");
        edge.is("has ended", x.run(0, 2), 5);
        edge.is("is gone", x.run(1, 2), 5);
        edge.is("nothing lit but the one", x.run(0, 3), 1);
        edge.is("nothing lit", x.run(1, 3), 0);
        edge.is("the other is as it was", x.rest(0, 0, 9999), 2560);
        edge.is("with what came to it", x.rest(1, 0, 9999), 2560 + 1280);
        edge.is("a bell is never vain", Due.of("", "first bell and light 0;").vain(0, 0), 1);
        edge.is("nor is what is there", Due.of("candle 1;candle 1;", "first light 0 and light 0 and light 1 and both 1 and out 0 and out 1 and join 0 1;").run(0, 2), 0);
    }

    private void vainOfTwoFlames() {
        edge.of("light, both of what has two FLAMES;");
        UnevenWax x = Due.of("candle 10;", "first light 0 and light 0 and light 0 and both 0;", "first both 0 and both 0 and light 0;", "first light 0 and both 0 and both 0;");
        edge.is("light of two", x.vain(0, 0), 2);
        edge.is("both of two", x.vain(0, 1), 3);
        edge.is("both of both", x.vain(1, 0), 1);
        edge.is("light of both", x.vain(1, 1), 2);
        edge.is("both of one is not", x.vain(2, 0), 2);
        edge.is("lit", x.run(0, 3) + x.run(1, 3) + x.run(2, 3), 6);
        edge.is("two stay", x.flames(0, 0, 0), 2);
    }

    private void vainOut() {
        edge.of("out of what has none;");
        UnevenWax x = Due.of("candle 10;", "first out 0;", "first light 0 and out 0 and out 0;", "first both 0 and out 0 and out 0;");
        edge.is("never lit", x.vain(0, 0), 0);
        edge.is("put out of one", x.vain(1, 0), 2);
        edge.is("put out of two", x.vain(2, 0), 2);
        edge.is("once", x.run(1, 2) + x.run(2, 2), 2);
    }

    private void vainJoin() {
        edge.of("join of one with itself, or if one burns.");
        UnevenWax x = Due.of("candle 10;candle 20;", "first join 0 0 and bell;", "first light 0 and join 0 1;", "first both 1 and join 0 1;", "first light 0 and light 1 and join 1 0;");
        edge.is("with itself", x.vain(0, 0), 0);
        edge.is("it stays", x.rest(0, 0, 0), 2560);
        edge.is("the first burns", x.vain(1, 0), 1);
        edge.is("the second stays", x.rest(1, 1, 0), 5120);
        edge.is("the second burns", x.vain(2, 0), 1);
        edge.is("the first stays", x.rest(2, 0, 0), 2560);
        edge.is("both burn", x.vain(3, 0), 2);
        Due.plan(x, 1, "first light 0 and both 1 and out 0 and out 1 and join 0 1;");
        edge.is("what burns no more can be joined", x.run(1, 2), 0);
    }

    /** Each of eight candles is lit at its second end as the one before it ends: the eighth bell is an odd number. */
    private void wholeSparks() {
        edge.of("(So all TIMES are whole SPARKS, but with draughts.)");
        StringBuilder cellar = new StringBuilder();
        StringBuilder plan = new StringBuilder("first both 0");
        for (int c = 0; c < 8; c++) {
            cellar.append("candle ").append(1 + 2 * c).append(';');
            plan.append(c > 0 ? " and light " + c : "");
        }
        for (int c = 0; c < 8; c++) {
            plan.append(";ends ").append(c).append(" bell").append(c < 7 ? " and light " + (c + 1) : "");
        }
        UnevenWax x = Due.of(cellar.toString(), plan.append(';').toString());
        int[] want = {128, 448, 864, 1328, 1816, 2316, 2822, 3331};
        for (int k = 0; k < 8; k++) {
            edge.is("bell " + k, x.bell(0, k), want[k]);
        }
        edge.is("a spark before its end two are left", x.rest(0, 7, 3330), 2);
    }

    private void bells() {
        edge.of("BELLS: the times at which it RINGS, as they come (each ACT one), 40 at most.");
        UnevenWax x = Due.of("candle 10;", "first light 0 and " + TWENTY_BELLS + ";ends 0 " + TWENTY_BELLS.substring(9) + ";",
            "first bell" + " and bell".repeat(39) + ";");
        edge.is("as many as acts", x.run(0, 0), 39);
        edge.is("the last at 0", x.bell(0, 19), 0);
        edge.is("the first at its end", x.bell(0, 20), 2560);
        edge.is("the last at its end", x.bell(0, 38), 2560);
        edge.is("no more", x.bell(0, 39), -1);
        edge.is("forty", x.run(1, 0), 40);
        edge.is("the fortieth", x.bell(1, 39), 0);
        edge.is("no 41st", x.bell(1, 40), -1);
    }

    private void lit() {
        edge.of("LIT: how many FLAMES were lit in all.");
        UnevenWax x = Due.of("candle 10;candle 20;", "", "first both 0 and out 0 and both 0 and out 0 and light 0 and both 0;", "first both 0 and both 0 and light 0;",
            "first light 0;ends 0 light 1 and light 1 and both 0;");
        edge.is("none", x.run(0, 3), 0);
        edge.is("again and again", x.run(1, 3), 2 + 2 + 1 + 1);
        edge.is("none in vain", x.run(2, 3), 2);
        edge.is("at an end", x.run(3, 3), 3);
        String much = "first " + "both 0and out 0and ".repeat(19) + "both 0;";
        edge.is("38 and two", Due.of("candle 1;", much).run(0, 3), 40);
    }

    private void waxBurnt() {
        edge.of("WAX burnt: over CANDLES, wax times what of its own PIECES burnt (REST at first less REST;");
        UnevenWax x = Due.of("candle 10 wax 999;candle 20 wax 500;candle 5 wax 1;", "", "first light 0 and light 1 and light 2;", "first light 2 and both 1;ends 2 out 1;", "first both 2;");
        edge.is("nothing burnt", x.run(0, 4), 0);
        edge.is("all burnt", x.run(1, 4), 1500);
        edge.is("half of one", x.run(2, 4), 250 + 1);
        edge.is("by two flames as much", x.run(3, 4), 1);
        StringBuilder all = new StringBuilder("first light 0");
        for (int c = 1; c < 8; c++) {
            all.append(" and both ").append(c);
        }
        UnevenWax y = Due.of("candle 60 60 60 60 60 60 wax 999;".repeat(8), all.append(';').toString());
        edge.is("the most wax", y.run(0, 4), 8 * 999);
    }

    private void waxOfJoined() {
        edge.of("of joined ones the first one's own burns first)");
        String cellar = "candle 10 wax 100;candle 20 wax 200;candle 10 wax 1;candle 15 wax 1;candle 31 wax 310;";
        UnevenWax x = Due.of(cellar, "first join 0 1 and light 0 and light 2;ends 2 out 0;", "first join 0 1 and light 0 and light 3;ends 3 out 0;",
            "first join 1 0 and light 1 and light 3;ends 3 out 1;", "first join 0 1 and join 4 0 and both 4;");
        edge.is("all of the first, none of the second", x.run(0, 4), 100 + 1);
        edge.is("then a quarter of the second", x.run(1, 4), 100 + 50 + 1);
        edge.is("the other one first", x.run(2, 4), 150 + 1);
        edge.is("all of three", x.run(3, 4), 100 + 200 + 310);
        UnevenWax y = Due.of(cellar, "first light 0 and light 3;ends 0 join 1 4;ends 3 light 1 and both 2;ends 2 out 1;",
            "first light 1 and light 2;ends 2 out 1 and join 1 0 and light 1 and light 3;ends 3 out 1;");
        edge.is("joined, then lit", y.run(0, 4), 100 + 1 + 1 + 50);
        edge.is("what is left of the first, then the second", y.run(1, 4), 200 + 50 + 1 + 1);
    }

    private void waxDownwards() {
        edge.of("by all of that, downwards.");
        UnevenWax x = Due.of("candle 60 wax 999;candle 59 wax 1;candle 2 wax 1;candle 2 wax 1;candle 1 wax 1;",
            "first light 0 and light 1;ends 1 out 0;", "first light 2 and light 3 and light 4;ends 4 out 2 and out 3;", "first light 2 and both 3 and both 4;ends 4 out 2 and out 3;");
        edge.is("982.35 and 1", x.run(0, 4), 982 + 1);
        edge.is("half of 1 is none, candle by candle", x.run(1, 4), 1);
        edge.is("a quarter and half of 1 are none", x.run(2, 4), 1);
    }

    private void idleRules() {
        edge.of("IDLE are RULES that are not done in a RUN (those of a CANDLE that does not end in it).");
        UnevenWax x = Due.of("candle 10;candle 20;", "ends 7 bell;".repeat(20), "first light 0;ends 1 bell;ends 0 out 1;ends 0 bell;ends 1 bell;",
            "first join 0 1 and light 0;ends 1 bell;ends 0 bell;", "first light 0 and light 1;ends 0 out 1;ends 1 bell;");
        edge.is("all twenty", x.idle(0), (1 << 20) - 1);
        edge.is("of one that is never lit", x.idle(1), 2 + 16);
        edge.is("of one that is gone", x.idle(2), 2);
        edge.is("of one that is put out", x.idle(3), 4);
        UnevenWax y = Due.of("candle 1;", "first light 0;" + "ends 0 bell;".repeat(18) + "ends 1 bell;");
        edge.is("the last of twenty", y.idle(0), 1 << 19);
    }

    private void spareActs() {
        edge.of("SPARE is an ACT (numbered from 0 on through all RULES), if, it alone being left out, all BELLS come at the same times.");
        UnevenWax x = Due.of("candle 10;candle 20;candle 10;", "first light 7" + " and out 7".repeat(38) + ";",
            "first bell and bell;", "first light 0 and light 2;ends 0 bell;ends 2 light 1;ends 1 bell;",
            "first light 0 and light 1;ends 0 light 1 and out 1;ends 1 bell;ends 2 bell;");
        edge.is("without bells the first", x.spare(0, 0), 0);
        edge.is("without bells the last", x.spare(0, 38), 38);
        edge.is("no more", x.spare(0, 39), -1);
        edge.is("one bell fewer at one time is not the same", x.spare(1, 0), -1);
        edge.is("all are wanted", x.spare(2, 0), -1);
        // Without 'light 0' or without 'out 1' candle 1 burns to its end, and its bell rings.
        int[] want = {1, 2, 4, 5, -1};
        for (int k = 0; k < want.length; k++) {
            edge.is("where none rings, " + k, x.spare(3, k), want[k]);
        }
    }

    private void offWays() {
        edge.of("OFF by draughts: with every CANDLE in turn as told, or its REST by draught of a hundred less, or more (each cut to SPARKS), all ways of these:");
        UnevenWax x = Due.of("candle 1 draught 3;candle 1 draught 50;candle 1;", "first light 0;ends 0 bell;", "first join 0 1 and light 0;ends 0 bell;",
            "first light 0;ends 0 light 1;ends 1 bell;", "first light 2;ends 2 bell;");
        edge.is("248.32 is cut", x.off(0, 0, 0), 248);
        edge.is("263.68 is cut", x.off(0, 0, 1), 263);
        edge.is("both less", x.off(1, 0, 0), 248 + 128);
        edge.is("both more", x.off(1, 0, 1), 263 + 384);
        edge.is("both less, one by one", x.off(2, 0, 0), 248 + 128);
        edge.is("both more, one by one", x.off(2, 0, 1), 263 + 384);
        edge.is("no draught, least", x.off(3, 0, 0), 256);
        edge.is("no draught, greatest", x.off(3, 0, 1), 256);
        UnevenWax y = Due.of("candle 10 draught 10;candle 20;candle 1;",
            "first light 0 and both 1;ends 0 out 1;ends 1 out 0 and light 2;ends 2 bell;", "first light 0 and light 1;ends 0 out 1 and join 2 1 and light 2;ends 2 bell;");
        edge.is("rings as told or by more", y.off(0, 0, 0), 2560 + 256);
        edge.is("the longer it burns, the less is left, least", y.off(1, 0, 0), 256 + 5120);
        edge.is("the longer it burns, the less is left, greatest", y.off(1, 0, 1), 256 + 5120);
    }

    private void offBells() {
        edge.of("the least and the greatest time of BELL k (only of RUNS that ring so often)");
        UnevenWax x = Due.of("candle 10 draught 10;candle 10;", "first light 0 and light 1;ends 0 bell and out 1;ends 1 bell and out 0;",
            "first light 0 and light 1;ends 1 out 0;ends 0 bell;", "first light 1;ends 0 bell;");
        edge.is("bell 0, least", x.off(0, 0, 0), 2304);
        edge.is("bell 0, greatest", x.off(0, 0, 1), 2560);
        edge.is("bell 1 only as told, least", x.off(0, 1, 0), 2560);
        edge.is("bell 1 only as told, greatest", x.off(0, 1, 1), 2560);
        edge.is("bell 2 never", x.off(0, 2, 0), -1);
        edge.is("put out in one of three, least", x.off(1, 0, 0), 2304);
        edge.is("put out in one of three, greatest", x.off(1, 0, 1), 2560);
        edge.is("never rings", x.off(2, 0, 1), -1);
    }

    private void offDownwards() {
        edge.of("in SPARKS, downwards.");
        UnevenWax x = Due.of("candle 1 draught 3;candle 2 draught 1;", "first both 0;ends 0 bell;", "first both 0 and light 1;ends 0 light 1;ends 1 bell;");
        edge.is("half of 248", x.off(0, 0, 0), 124);
        edge.is("half of 263", x.off(0, 0, 1), 131);
        // Candle 1 burns 506, 512 or 517; half of it and a quarter of candle 0's are told.
        edge.is("253 and 62", x.off(1, 0, 0), 315);
        edge.is("258.5 and 65.75", x.off(1, 0, 1), 324);
    }

    private void nightDraws() {
        edge.of("A NIGHT by a SEED (x, an int; a DRAW: x becomes 1103515245 x + 12345, it is x >>> 16)");
        UnevenWax x = Due.of("candle 60 60 60 60 60 60 draught 50;candle 60 60 60 60 60 60 draught 50;", "first light 0;ends 0 bell;", "first light 1;ends 1 bell;");
        int[] seeds = {0, 1, -1, 7, Integer.MIN_VALUE, Integer.MAX_VALUE};
        // The draws, modulo 101, as worked out by hand with numbers of any length.
        int[] first = {0, 72, 15, 14, 44, 72};
        int[] second = {100, 45, 66, 9, 56, 9};
        for (int i = 0; i < seeds.length; i++) {
            edge.is("first draw of " + seeds[i], x.night(0, seeds[i], 0), 92160 * (50 + first[i]) / 100);
            edge.is("second draw of " + seeds[i], x.night(1, seeds[i], 0), 92160 * (50 + second[i]) / 100);
        }
    }

    private void nightRests() {
        edge.of("CANDLE by CANDLE REST is it times (100, and DRAW modulo (twice draught and 1), less draught) by 100, cut;");
        UnevenWax x = Due.of("candle 1;candle 1 draught 50;candle 1 draught 1;", "first light 0;ends 0 bell;", "first light 1;ends 1 bell;", "first light 2;ends 2 bell;");
        edge.is("without a draught as it is", x.night(0, 0, 0), 256);
        edge.is("it takes a draw all the same: 54236 modulo 101", x.night(1, 0, 0), 384);
        edge.is("42756 modulo 3", x.night(2, 0, 0), 253);
        edge.is("10113 modulo 3", x.night(2, 1, 0), 253);
        edge.is("9862 modulo 3: 1", x.night(2, -1, 0), 256);
        edge.is("10868 modulo 3: 2", x.night(2, 7, 0), 258);
        edge.is("38526 modulo 101: 45", x.night(1, 1, 0), 243);
    }

    private void nightDownwards() {
        edge.of("the RUN goes by these (times in SPARKS, downwards).");
        UnevenWax x = Due.of("candle 1;candle 1;candle 1 draught 1;candle 2;", "first both 2;ends 2 bell;", "first both 2 and light 3;ends 2 light 3;ends 3 bell and bell;");
        edge.is("half of 253", x.night(0, 0, 0), 126);
        edge.is("half of 258", x.night(0, 7, 0), 129);
        edge.is("126.5 and 192.75", x.night(1, 0, 0), 319);
        edge.is("again", x.night(1, 0, 1), 319);
        edge.is("what was told stays", x.bell(0, 0), 128);
    }
}
