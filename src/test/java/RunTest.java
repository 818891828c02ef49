/** Promises 11 to 23: runs of plans. */
public final class RunTest {
    private static final Due due = new Due("RunTest");
    private static final int[] NO_PLANS = {-1, 4, Integer.MIN_VALUE, Integer.MAX_VALUE};

    public static void main(String[] args) {
        fortyFive();
        joined();
        sameMoment();
        flamesLit();
        waxByOwnPieces();
        vainActs();
        idleRules();
        spareActs();
        restsByTime();
        otherRests();
        offByDraughts();
        nights();
        chimes();
        days();
        oneAfterTheOther();
        halvedEightTimes();
        nothingOfAnotherRun();
        eightDraughts();
        wrongInputs();
        due.close();
    }

    private static void fortyFive() {
        UnevenWax x = Due.of("candle 60;candle 60 wax 120;", "first both 0 and light 1;ends 0 light 1 and bell;ends 1 bell;");
        due.is("bells", x.run(0, 0), 2);
        due.is("over", x.run(0, 1), 11520);
        due.is("vain", x.run(0, 2), 0);
        due.is("lit", x.run(0, 3), 4);
        due.is("wax", x.run(0, 4), 180);
        due.is("bell 0", x.bell(0, 0), 7680);
        due.is("bell 1", x.bell(0, 1), 11520);
        due.is("bell 2", x.bell(0, 2), -1);
        due.is("bell -1", x.bell(0, -1), -1);
        due.is("ends 0", x.ends(0, 0), 7680);
        due.is("ends 1", x.ends(0, 1), 11520);
        UnevenWax y = Due.of("candle 60;", "ends 0 bell;first bell and light 0;first bell;");
        due.is("first rules in order", y.bell(0, 1), 0);
        due.is("three bells", y.run(0, 0), 3);
        due.is("the end", y.bell(0, 2), 15360);
    }

    private static void joined() {
        UnevenWax x = Due.of("candle 10;candle 20;candle 40;",
            "first join 1 2 and join 0 1 and light 0;ends 0 bell;ends 1 bell;ends 2 bell;",
            "first light 0 and light 1;ends 0 out 1 and join 2 1 and both 2;ends 2 bell;");
        due.is("all in one", x.bell(0, 0), 70 * 256);
        due.is("one bell", x.run(0, 0), 1);
        due.is("the second is gone", x.ends(0, 1), -1);
        due.is("the third is gone", x.ends(0, 2), -1);
        due.is("rest", x.rest(0, 0, 0), 70 * 256);
        due.is("rest of the gone", x.rest(0, 2, 0), 0);
        due.is("what was left comes", x.rest(1, 2, 2560), 50 * 256);
        due.is("before it", x.rest(1, 2, 2559), 40 * 256);
        due.is("half as long", x.bell(1, 0), 35 * 256);
        due.is("gone later", x.rest(1, 1, 2560), 0);
        due.is("no flame of the gone", x.flames(1, 1, 2560), 0);
    }

    private static void sameMoment() {
        UnevenWax x = Due.of("candle 10;candle 10;candle 7;",
            "ends 1 bell and light 2;ends 0 light 1 and both 2;first light 0 and light 1;ends 2 bell;");
        due.is("what ends at once is not lit again", x.run(0, 2), 2);
        due.is("the least number is first", x.vain(0, 0), 1);
        due.is("then the other", x.vain(0, 1), 2);
        due.is("bell", x.bell(0, 0), 2560);
        due.is("two flames came first", x.bell(0, 1), 2560 + 7 * 128);
    }

    private static void flamesLit() {
        UnevenWax x = Due.of("candle 10;candle 20;",
            "first light 0 and both 0 and light 0 and both 0 and out 0 and out 0 and both 0 and both 1;ends 0 out 1 and light 1;");
        due.is("lit", x.run(0, 3), 1 + 1 + 2 + 2 + 1);
        due.is("vain", x.run(0, 2), 3);
        due.is("over", x.run(0, 1), 5 * 256 + 10 * 256);
        due.is("flames at 0", x.flames(0, 1, 0), 2);
        due.is("flames at the end of 0", x.flames(0, 1, 1280), 1);
        due.is("flames before", x.flames(0, 1, 1279), 2);
        due.is("flames behind all", x.flames(0, 1, Integer.MAX_VALUE), 0);
        due.is("flames of the ended", x.flames(0, 0, 1280), 0);
    }

    private static void waxByOwnPieces() {
        // Candle 2 is half burnt, then comes behind 1, and 1 behind 0; a fourth one tells when to put it out.
        UnevenWax x = Due.of("candle 10 wax 7;candle 20 wax 11;candle 40 wax 13;candle 20 wax 17;candle 35 wax 1;",
            "first light 2 and light 3;ends 3 out 2 and join 1 2 and join 0 1 and light 0 and light 4;ends 4 out 0;");
        due.is("each downwards", x.run(0, 4), 7 + 11 + 13 * 25 / 40 + 17 + 1);
        due.is("over", x.run(0, 1), 55 * 256);
        due.is("some of 2 is taken", x.days(0, 3, 2), 3);
        UnevenWax y = Due.of("candle 10;candle 20;candle 30 wax 100;candle 7;",
            "first join 0 1 and join 2 0 and light 2 and light 3;ends 3 out 2;");
        due.is("own first", y.run(0, 4), 100 * 7 / 30 + 60);
        due.is("0 is not taken", y.days(0, 3, 0), 0);
        due.is("2 is taken", y.days(0, 3, 2), 3);
        due.is("wax of days", y.days(0, 400, -1), 400 * 83);
        UnevenWax z = Due.of("candle 10;candle 20;candle 30;candle 13;",
            "first join 0 2 and join 0 1 and light 0 and light 3;ends 3 out 0;");
        due.is("as they were joined", z.days(0, 1, 2), 1);
        due.is("the last is whole", z.days(0, 1, 1), 0);
    }

    private static void vainActs() {
        UnevenWax x = Due.of("candle 10;candle 20;candle 5;",
            "ends 2 light 2 and both 2 and out 2 and join 0 2 and join 2 0 and join 1 7 and join 7 1;"
            + "first light 7 and both 7 and out 7 and out 0 and join 0 0;"
            + "first light 1 and join 0 1 and join 1 0 and both 2 and light 2 and both 2;");
        int[] want = {0, 1, 2, 3, 4, 5, 6, 7, 8, 9, 10, 11, 13, 14, 16, 17};
        due.is("vain", x.run(0, 2), want.length);
        for (int k = 0; k < want.length; k++) {
            due.is("vain " + k, x.vain(0, k), want[k]);
        }
        due.is("not so many", x.vain(0, want.length), -1);
        due.is("below 0", x.vain(0, -1), -1);
        UnevenWax y = Due.of("candle 10;candle 20;", "first join 0 1 and light 1 and out 1 and join 0 1 and join 1 0;ends 1 light 1;");
        due.is("what is gone", y.run(0, 2), 4);
    }

    private static void idleRules() {
        UnevenWax x = Due.of("candle 10;candle 20;", "ends 1 bell;first light 0;ends 0 bell;ends 7 bell;ends 1 out 0;", "");
        due.is("idle", x.idle(0), 1 + 8 + 16);
        due.is("none", x.idle(1), 0);
        UnevenWax y = Due.of("candle 10;candle 20;", "ends 1 bell;ends 0 bell;first join 0 1 and light 0;");
        due.is("what was joined does not end", y.idle(0), 1);
    }

    private static void spareActs() {
        UnevenWax x = Due.of("candle 10;candle 20;candle 40;",
            "first light 0 and light 1 and light 2;ends 0 bell and light 2;ends 2 out 2;ends 1 out 2 and bell and bell;ends 7 bell;");
        int[] want = {2, 4, 5, 6, 9};
        for (int k = 0; k < want.length; k++) {
            due.is("spare " + k, x.spare(0, k), want[k]);
        }
        due.is("not so many", x.spare(0, want.length), -1);
        due.is("below 0", x.spare(0, -1), -1);
        due.is("the plan is as it was", x.run(0, 0), 3);
    }

    private static void restsByTime() {
        UnevenWax x = Due.of("candle 10;candle 20;", "first both 0 and light 1;ends 0 out 1 and bell;");
        due.is("at 0", x.rest(0, 0, 0), 2560);
        due.is("by two", x.rest(0, 0, 3), 2554);
        due.is("by one", x.rest(0, 1, 3), 5117);
        due.is("at its end", x.rest(0, 0, 1280), 0);
        due.is("before it", x.rest(0, 0, 1279), 2);
        due.is("as at the end of all", x.rest(0, 1, 1281), 5120 - 1280);
        due.is("much later", x.rest(0, 1, Integer.MAX_VALUE), 5120 - 1280);
        due.is("flames much later", x.flames(0, 1, Integer.MAX_VALUE), 0);
        due.is("does not end", x.ends(0, 1), -1);
        UnevenWax y = Due.of("candle 10;", "");
        due.is("never lit", y.rest(0, 0, 7), 2560);
        due.is("never lit, flames", y.flames(0, 0, 7), 0);
    }

    private static void otherRests() {
        UnevenWax x = Due.of("candle 10;candle 20;", "first both 0 and light 1 and bell;ends 0 light 1;ends 1 bell;");
        due.is("would as it is", x.would(0, 1, 1, 0), 1280 + 1920);
        due.is("half a spark is cut", x.would(0, 1, 1, 1), 1280 + 1920);
        due.is("two are one", x.would(0, 1, 1, 2), 1280 + 1921);
        due.is("four of the other", x.would(0, 1, 0, 4), 1282 + 1919);
        due.is("less", x.would(0, 1, 1, -5119), 1);
        due.is("bell 0", x.would(0, 0, 1, -5119), 0);
        due.is("all gone", x.would(0, 1, 1, -5120), -3);
        due.is("the most", x.would(0, 1, 1, 200000 - 5120), 1280 + 198720 / 2);
        due.is("too much", x.would(0, 1, 1, 200001 - 5120), -3);
        due.is("far too much", x.would(0, 1, 1, Integer.MAX_VALUE), -3);
        due.is("far too little", x.would(0, 1, 1, Integer.MIN_VALUE), -3);
        due.is("not so many", x.would(0, 2, 1, 0), -1);
        due.is("below 0", x.would(0, -1, 1, 0), -1);
        due.is("the candle is as it was", x.bell(0, 1), 3200);
    }

    private static void offByDraughts() {
        UnevenWax x = Due.of("candle 10 draught 10;candle 10 draught 20;candle 1 draught 50;",
            "first light 0 and light 1;ends 0 bell and out 1;ends 1 bell and bell and out 0;", "");
        due.is("the first to end, least", x.off(0, 0, 0), 2048);
        due.is("the first to end, greatest", x.off(0, 0, 1), 2816);
        due.is("a second bell, least", x.off(0, 1, 0), 2048);
        due.is("a second bell, greatest", x.off(0, 1, 1), 2560);
        due.is("a third bell, if both at once", x.off(0, 2, 0), 2560);
        due.is("a fourth", x.off(0, 3, 0), -1);
        due.is("another plan", x.off(1, 0, 0), -1);
        Due.plan(x, 1, "first both 0;ends 0 bell;");
        due.is("cut to sparks", x.off(1, 0, 1), 1408);
        UnevenWax y = Due.of("candle 1 draught 3;", "first light 0;ends 0 bell;");
        due.is("less, cut", y.off(0, 0, 0), 248);
        due.is("more, cut", y.off(0, 0, 1), 263);
        Due.plan(y, 0, "first both 0;ends 0 bell;");
        due.is("by the new plan", y.off(0, 0, 1), 131);
        Due.cellar(y, "candle 2 draught 3;");
        due.is("by the new cellar", y.off(0, 0, 1), 263);
        y.image(0);
        Due.cellar(y, "candle 4 draught 3;");
        due.is("by the newer cellar", y.off(0, 0, 1), 527);
        y.restore(0);
        due.is("by the restored cellar", y.off(0, 0, 1), 263);
    }

    private static void nights() {
        UnevenWax x = Due.of("candle 10;candle 10 draught 10;candle 20 draught 7;",
            "first light 0 and light 1 and both 2;ends 0 bell;ends 1 bell;ends 2 bell;");
        int[] seeds = {0, 1, 9, -1, 123456789, Integer.MIN_VALUE};
        for (int seed : seeds) {
            int draw = 1103515245 * seed + 12345;
            draw = 1103515245 * draw + 12345;
            int one = 2560 * (90 + (draw >>> 16) % 21) / 100;
            draw = 1103515245 * draw + 12345;
            int two = 5120 * (93 + (draw >>> 16) % 15) / 100 / 2;
            int[] want = {2560, one, two};
            java.util.Arrays.sort(want);
            for (int k = 0; k < 3; k++) {
                due.is("night " + seed + " bell " + k, x.night(0, seed, k), want[k]);
            }
            due.is("not so many", x.night(0, seed, 3), -1);
            due.is("below 0", x.night(0, seed, -1), -1);
        }
        due.is("without draughts again", x.bell(0, 2), 2560);
    }

    private static void chimes() {
        UnevenWax x = Due.of("candle 10;candle 20;",
            "first bell and bell and light 0;ends 0 bell;", "first bell and both 1;ends 1 bell and bell and bell;", "first light 1;ends 1 bell;");
        due.is("pairs", x.chime(0, 1), 2 + 3);
        due.is("the other way round", x.chime(1, 0), 5);
        due.is("with itself", x.chime(0, 0), 4 + 1);
        due.is("none", x.chime(0, 2), 0);
        due.is("an empty one", x.chime(0, 3), 0);
    }

    private static void days() {
        UnevenWax x = Due.of("candle 10 wax 99;candle 20;", "first both 0;");
        due.is("wax", x.days(0, 1, -1), 99);
        due.is("wax of 400", x.days(0, 400, -1), 39600);
        due.is("taken", x.days(0, 400, 0), 400);
        due.is("not taken", x.days(0, 400, 1), 0);
        due.is("0 days", x.days(0, 0, 0), -3);
        due.is("401 days", x.days(0, 401, -1), -3);
        due.is("no such candle ahead of the days", x.days(0, 0, 2), -2);
        due.is("no such what", x.days(0, 1, -2), -2);
        due.is("no such plan", x.days(4, 0, 0), -2);
    }

    private static void oneAfterTheOther() {
        StringBuilder plan = new StringBuilder("first light 0;");
        for (int c = 0; c < 8; c++) {
            plan.append("ends ").append(c).append(" bell");
            plan.append(c < 7 ? " and light " + (c + 1) + ";" : ";");
        }
        UnevenWax x = Due.of("candle 60 60 60 60 60 60;".repeat(8), plan.toString());
        for (int k = 0; k < 8; k++) {
            due.is("bell " + k, x.bell(0, k), (k + 1) * 92160);
            due.is("ends " + k, x.ends(0, k), (k + 1) * 92160);
        }
        due.is("over", x.run(0, 1), 8 * 92160);
        due.is("the last one at half its time", x.rest(0, 7, 7 * 92160 + 46080), 46080);
        due.is("wax", x.run(0, 4), 480);
        due.is("idle", x.idle(0), 0);
        due.is("a longer one", x.would(0, 7, 3, 200000 - 92160), 7 * 92160 + 200000);
        Due.plan(x, 1, "first join 0 1 and join 0 2 and join 0 3 and join 0 4 and join 0 5 and join 0 6 and join 0 7 and light 0;ends 0 bell;");
        due.is("all in one", x.bell(1, 0), 8 * 92160);
        due.is("all its wax", x.run(1, 4), 480);
        due.is("the last is taken", x.days(1, 2, 7), 2);
    }

    /** Each of eight candles is lit at its second end as the one before it ends, and ends half as much later. */
    private static void halvedEightTimes() {
        StringBuilder cellar = new StringBuilder();
        StringBuilder plan = new StringBuilder("first both 0");
        for (int c = 1; c < 8; c++) {
            plan.append(" and light ").append(c);
        }
        plan.append(';');
        long rest = 0;
        long now = 0;
        for (int c = 0; c < 8; c++) {
            cellar.append("candle ").append(10 + 7 * c).append(';');
            plan.append("ends ").append(c).append(" bell");
            plan.append(c < 7 ? " and light " + (c + 1) + ";" : ";");
            rest = (10 + 7 * c) * 256L * 256;
            now += (rest - now) / 2;
        }
        UnevenWax x = Due.of(cellar.toString(), plan.toString());
        due.is("whole sparks", now % 256, 0);
        due.is("the eighth bell", x.bell(0, 7), now / 256);
        due.is("a spark more in the first is 256ths later", x.would(0, 7, 0, 1), now / 256);
        due.is("256 sparks more make one", x.would(0, 7, 0, 256), now / 256 + 1);
        due.is("255 do not", x.would(0, 7, 0, 255), now / 256);
        due.is("one spark less is cut", x.would(0, 7, 0, -1), now / 256 - 1);
        due.is("the last one's own", x.would(0, 7, 7, 2), now / 256 + 1);
    }

    private static void nothingOfAnotherRun() {
        UnevenWax x = Due.of("candle 10;candle 20;candle 5;",
            "first out 0 and out 1 and join 0 1 and light 0 and bell;ends 0 bell;", "first light 2 and light 0;ends 0 bell;ends 7 bell;");
        due.is("ends, asked first", x.ends(0, 0), 30 * 256);
        due.is("ends of the other", x.ends(1, 0), 2560);
        due.is("vain of the first", x.vain(0, 1), 1);
        due.is("vain of the other", x.vain(1, 0), -1);
        due.is("vain of the other, how many", x.run(1, 2), 0);
        due.is("idle of the other", x.idle(1), 4);
        due.is("1 is not taken", x.days(1, 5, 1), 0);
        due.is("1 is taken", x.days(0, 5, 1), 5);
        due.is("wax", x.run(1, 4), 120);
        due.is("lit", x.run(1, 3), 2);
        due.is("bells", x.run(1, 0), 1);
        UnevenWax y = Due.of("candle 10;", "first light 0;ends 0 out 0;");
        due.is("vain, asked first", y.vain(0, 0), 1);
        UnevenWax z = Due.of("candle 10;", "first light 0;ends 1 out 0;");
        due.is("idle, asked first", z.idle(0), 2);
    }

    private static void eightDraughts() {
        UnevenWax x = Due.of("candle 10 draught 50;".repeat(8),
            "first join 0 1 and join 0 2 and join 0 3 and join 0 4 and join 0 5 and join 0 6 and join 0 7 and light 0;ends 0 bell;",
            "first light 0;ends 0 bell and light 1;ends 1 bell;");
        due.is("all less", x.off(0, 0, 0), 8 * 1280);
        due.is("all more", x.off(0, 0, 1), 8 * 3840);
        due.is("two of them, less", x.off(1, 1, 0), 2560);
        due.is("two of them, more", x.off(1, 1, 1), 7680);
        UnevenWax y = Due.of("candle 10;candle 10 draught 1;", "first join 0 1 and light 0;ends 0 bell;");
        due.is("only what is joined, less", y.off(0, 0, 0), 2560 + 2534);
        due.is("only what is joined, more", y.off(0, 0, 1), 2560 + 2585);
    }

    private static void wrongInputs() {
        UnevenWax x = Due.of("candle 10;", "first light 0;ends 0 bell;");
        for (int p : NO_PLANS) {
            due.is("run", x.run(p, 0), -2);
            due.is("bell", x.bell(p, 0), -2);
            due.is("ends", x.ends(p, 0), -2);
            due.is("rest", x.rest(p, 0, -1), -2);
            due.is("flames", x.flames(p, 0, -1), -2);
            due.is("idle", x.idle(p), -2);
            due.is("vain", x.vain(p, 0), -2);
            due.is("spare", x.spare(p, 0), -2);
            due.is("would", x.would(p, 0, 0, -9999999), -2);
            due.is("off", x.off(p, -1, 0), -2);
            due.is("night", x.night(p, 1, 0), -2);
            due.is("chime", x.chime(p, 0), -2);
            due.is("chime", x.chime(0, p), -2);
        }
        int[] none = {-1, 1, 8, Integer.MAX_VALUE};
        for (int c : none) {
            due.is("ends", x.ends(0, c), -2);
            due.is("rest", x.rest(0, c, -1), -2);
            due.is("flames", x.flames(0, c, -1), -2);
            due.is("would", x.would(0, 0, c, -9999999), -2);
        }
        due.is("run(0, 5)", x.run(0, 5), -2);
        due.is("run(0, -1)", x.run(0, -1), -2);
        due.is("rest below 0", x.rest(0, 0, -1), -3);
        due.is("flames below 0", x.flames(0, 0, -1), -3);
        due.is("off, what 2", x.off(0, -1, 2), -2);
        due.is("off, what -1", x.off(0, 0, -1), -2);
        due.is("off, k -1", x.off(0, -1, 0), -3);
    }
}
