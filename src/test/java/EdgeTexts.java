/** Sentences about texts, their tokens and faults, and promises 1 to 6. */
final class EdgeTexts {
    private static final int BLANKS = 0x20202020;
    private static final String LONGEST_LINE = "candle 60 60 60 60 60 60 wax 999 draught 50;";
    private static final String EIGHT = "candle 5;".repeat(8);
    private static final String TWENTY = "first bell;".repeat(20);
    private static final String FORTY = "first bell" + " and bell".repeat(39);

    private final Edge edge;

    EdgeTexts(Edge edge) {
        this.edge = edge;
    }

    void all() {
        calls();
        sparks();
        longestCellar();
        lines();
        lineForm();
        piecesOfACandle();
        minutesOfAPiece();
        wax();
        draught();
        eightCandles();
        restAtFirst();
        planTexts();
        ruleForm();
        actForm();
        candlesNamed();
        rulesAndActs();
        tokens();
        blanks();
        words();
        numbers();
        stops();
        firstFault();
        leastKind();
        noToken();
        outOfPlace();
        outOfBounds();
        tooMany();
        newObject();
        feed();
        feedTooMuch();
        cellar();
        cellarStays();
        cellarNumber();
        cellarFault();
        plan();
        planNone();
        planNumber();
        planFault();
        fault();
        faultNone();
        candle();
        candleNone();
        none();
    }

    private void calls() {
        edge.of("An object is used for at most 512 calls after it has been made; what later calls answer is free.");
        UnevenWax x = new UnevenWax();
        for (int i = 0; i < 127; i++) {
            x.feed(0x63616e64, 0x6c652036, 0x303b6361, 0x6e646c65, 0x2036303b);
            x.cellar(20);
            x.image(i & 1);
            x.numbers(i & 3, i & 3, i % 41);
        }
        x.restore(1);
        edge.is("the 510th call", x.can(3, false, 45 * 256), 1);
        edge.is("the 511th call", x.time(3, false, 0), 7680);
        edge.is("the 512th call", x.given(3, false, 45 * 256, 0), 12);
    }

    private void sparks() {
        edge.of("TIMES are SPARKS, 256 to a minute.");
        edge.is("the shortest candle", Due.of("candle 1;", "first light 0;ends 0 bell;").bell(0, 0), 256);
        edge.is("the longest candle", Due.of(LONGEST_LINE, "first light 0;ends 0 bell;").bell(0, 0), 6 * 60 * 256);
    }

    private void longestCellar() {
        edge.of("THE CELLAR is a TEXT of at most 400 bytes (without one: no CANDLES)");
        edge.is("without one", new UnevenWax().count(0), 0);
        UnevenWax x = new UnevenWax();
        String blanks = " ".repeat(48);
        edge.is("a full text", Due.cellar(x, LONGEST_LINE.repeat(7) + blanks + LONGEST_LINE), 8);
        edge.is("its last candle", x.candle(7, 2), 999);
        edge.text(-1, " ".repeat(400), 0, -1);
        edge.text(-1, " ".repeat(399) + ";", 2, 399);
        edge.text(-1, " ".repeat(399) + "?", 1, 399);
        edge.text(-1, " ".repeat(392) + "candle 5", 2, 400);
        edge.text(-1, "candle 5;" + " ".repeat(382) + "candle60;", 0, -1);
    }

    private void lines() {
        edge.of("{ LINE ; }");
        edge.is("no bytes", Due.cellar(new UnevenWax(), ""), 0);
        edge.is("blanks alone", Due.cellar(new UnevenWax(), " \n "), 0);
        edge.is("one line", Due.cellar(new UnevenWax(), "candle 5;"), 1);
        edge.is("two lines", Due.cellar(new UnevenWax(), "candle 5;candle 6;"), 2);
        edge.text(-1, "candle 5;candle 6", 2, 17);
        edge.text(-1, ";candle 5;", 2, 0);
        edge.text(-1, "candle 5;;candle 6;", 2, 9);
        edge.text(3, "first bell;;", 2, 11);
        edge.text(3, ";", 2, 0);
    }

    private void lineForm() {
        edge.of("LINE: candle N { N } [ wax N ] [ draught N ].");
        UnevenWax x = Due.of("candle 5;candle 5 wax 7;candle 5 draught 8;candle 5 wax 9 draught 10;");
        int[] wax = {60, 7, 60, 9};
        int[] draught = {0, 0, 8, 10};
        for (int c = 0; c < 4; c++) {
            edge.is("wax of " + c, x.candle(c, 2), wax[c]);
            edge.is("draught of " + c, x.candle(c, 3), draught[c]);
        }
        edge.text(-1, "candle 5 draught 8 wax 7;", 2, 19);
        edge.text(-1, "candle 5 wax draught 7;", 2, 13);
        edge.text(-1, "candle 5 draught;", 2, 16);
        edge.text(-1, "candle 5 wax 7 draught", 2, 22);
        edge.text(-1, "candle draught 5;", 2, 7);
        edge.text(-1, "wax 5;", 2, 0);
        edge.text(-1, "candle 5 wick 5;", 2, 9);
    }

    private void piecesOfACandle() {
        edge.of("candle: 1 to 6 PIECES as long as one another");
        edge.text(-1, "candle;", 2, 6);
        edge.is("one", edge.text(-1, "candle 9;", 0, -1).candle(0, 0), 1);
        edge.is("six", edge.text(-1, "candle 9 1 1 1 1 1;", 0, -1).candle(0, 0), 6);
        edge.text(-1, "candle 9 1 1 1 1 1 1;", 4, 19);
        edge.is("as long as one another", Due.of("candle 9 1 1 1 1 1;").length(0, 9 * 256), 833);
    }

    private void minutesOfAPiece() {
        edge.of("of which each burns 1 to 60 minutes");
        edge.text(-1, "candle 0;", 3, 7);
        edge.is("the least", edge.text(-1, "candle 1;", 0, -1).candle(0, 10), 1);
        edge.is("the most", edge.text(-1, "candle 60;", 0, -1).candle(0, 10), 60);
        edge.text(-1, "candle 61;", 3, 7);
        edge.text(-1, "candle 999;", 3, 7);
        edge.text(-1, "candle 1 1 1 1 1 0;", 3, 17);
        edge.is("the least at the last place", edge.text(-1, "candle 60 60 60 60 60 1;", 0, -1).candle(0, 15), 1);
        edge.text(-1, "candle 1 1 1 1 1 61;", 3, 17);
    }

    private void wax() {
        edge.of("wax 1 to 999 (60 without)");
        edge.text(-1, "candle 5 wax 0;", 3, 13);
        edge.is("the least", edge.text(-1, "candle 5 wax 1;", 0, -1).candle(0, 2), 1);
        edge.is("the most", edge.text(-1, "candle 5 wax 999;", 0, -1).candle(0, 2), 999);
        edge.text(-1, "candle 5 wax 1000;", 1, 13);
        edge.is("without", edge.text(-1, "candle 5;", 0, -1).candle(0, 2), 60);
        UnevenWax x = Due.of("candle 5 wax 7;");
        Due.cellar(x, "candle 5;");
        edge.is("without, behind one with", x.candle(0, 2), 60);
    }

    private void draught() {
        edge.of("draught 0 to 50 (0).");
        edge.is("the least", edge.text(-1, "candle 5 draught 0;", 0, -1).candle(0, 3), 0);
        edge.is("the most", edge.text(-1, "candle 5 draught 50;", 0, -1).candle(0, 3), 50);
        edge.text(-1, "candle 5 draught 51;", 3, 17);
        edge.text(-1, "candle 5 draught 999;", 3, 17);
        edge.is("without", edge.text(-1, "candle 5;", 0, -1).candle(0, 3), 0);
        UnevenWax x = Due.of("candle 5 draught 7;");
        Due.cellar(x, "candle 5;");
        edge.is("without, behind one with", x.candle(0, 3), 0);
    }

    private void eightCandles() {
        edge.of("CANDLES are numbered from 0 on as they come, 8 at most.");
        UnevenWax x = Due.of("candle 1;candle 2;candle 3;candle 4;candle 5;candle 6;candle 7;candle 8;");
        for (int c = 0; c < 8; c++) {
            edge.is("minutes of " + c, x.candle(c, 1), c + 1);
        }
        edge.is("no ninth", x.candle(8, 1), -2);
        edge.is("a ninth one is refused", Due.cellar(x, EIGHT + "candle 5;"), -34);
        edge.is("what there was stays", x.candle(7, 1), 8);
    }

    private void restAtFirst() {
        edge.of("REST of a CANDLE: how long it would burn at one end: all PIECES together at first.");
        UnevenWax x = Due.of("candle 1;candle 1 2 3 4 5 6;" + LONGEST_LINE);
        edge.is("one piece", x.rest(0, 0, 0), 256);
        edge.is("six pieces", x.rest(0, 1, 0), 21 * 256);
        edge.is("the most", x.rest(0, 2, 0), 92160);
    }

    private void planTexts() {
        edge.of("A PLAN (0 to 3) is a TEXT likewise (empty at first): { RULE ; }");
        for (int p = 0; p < 4; p++) {
            UnevenWax x = new UnevenWax();
            edge.is("empty at first: " + p, x.count(1 + p), 0);
            String full = " ".repeat(389) + "first bell;";
            edge.is("a full text: " + p, Due.plan(x, p, full), 1);
            for (int q = 0; q < 4; q++) {
                edge.is("bells of " + q, x.run(q, 0), p == q ? 1 : 0);
            }
            edge.is("empty again: " + p, x.plan(p, 0), 0);
            edge.is("no rules: " + p, x.count(1 + p), 0);
        }
        edge.text(0, " ".repeat(390) + "first bell", 2, 400);
        edge.text(0, " \n ", 0, -1);
        edge.text(0, "first bell", 2, 10);
    }

    private void ruleForm() {
        edge.of("RULE: (first | ends N) ACT { and ACT }.");
        edge.text(0, "first;", 2, 5);
        edge.text(0, "ends 0;", 2, 6);
        edge.text(0, "ends;", 2, 4);
        edge.text(0, "ends", 2, 4);
        edge.text(0, "first 0 bell;", 2, 6);
        edge.text(0, "first ends 0 bell;", 2, 6);
        edge.text(0, "ends first bell;", 2, 5);
        edge.text(0, "first bell and;", 2, 14);
        edge.text(0, "first bell and and bell;", 2, 15);
        edge.text(0, "first bell first bell;", 2, 11);
        edge.text(0, "first bell light 0;", 2, 11);
        edge.text(0, "and bell;", 2, 0);
        edge.text(0, "0 bell;", 2, 0);
        edge.text(0, "ends 0 bell and light 0;first bell and bell and bell;", 0, -1);
    }

    private void actForm() {
        edge.of("ACT: light N | both N | out N | join N N | bell.");
        String[] one = {"light", "both", "out"};
        for (String act : one) {
            int behind = 6 + act.length();
            edge.text(0, "first " + act + ";", 2, behind);
            edge.text(0, "first " + act, 2, behind);
            edge.text(0, "first " + act + " and bell;", 2, behind + 1);
            edge.text(0, "first " + act + " 0;", 0, -1);
            edge.text(0, "first " + act + " 0 1;", 2, behind + 3);
        }
        edge.text(0, "first join;", 2, 10);
        edge.text(0, "first join 0;", 2, 12);
        edge.text(0, "first join 0", 2, 12);
        edge.text(0, "first join 0 and bell;", 2, 13);
        edge.text(0, "first join 0 1;", 0, -1);
        edge.text(0, "first join 0 1 2;", 2, 15);
        edge.text(0, "first bell;", 0, -1);
        edge.text(0, "first bell 0;", 2, 11);
        edge.text(0, "first lights 0;", 2, 6);
        edge.text(0, "first ligh 0;", 2, 6);
        edge.text(0, "first wax 0;", 2, 6);
    }

    private void candlesNamed() {
        edge.of("(N: a CANDLE, 0 to 7; it need not be there.)");
        edge.text(0, "ends 0 light 0 and both 0 and out 0 and join 0 0;", 0, -1);
        edge.text(0, "ends 7 light 7 and both 7 and out 7 and join 7 7;", 0, -1);
        edge.text(0, "ends 8 bell;", 3, 5);
        edge.text(0, "first light 8;", 3, 12);
        edge.text(0, "first both 8;", 3, 11);
        edge.text(0, "first out 8;", 3, 10);
        edge.text(0, "first join 8 0;", 3, 11);
        edge.text(0, "first join 0 8;", 3, 13);
        edge.text(0, "first light 999;", 3, 12);
    }

    private void rulesAndActs() {
        edge.of("RULES 20 at most, ACTS 40 at most in all.");
        UnevenWax x = new UnevenWax();
        edge.is("twenty rules", Due.plan(x, 0, TWENTY), 20);
        edge.is("a 21st", Due.plan(x, 0, TWENTY + "first bell;"), -34);
        edge.is("the twenty stay", x.run(0, 0), 20);
        edge.is("forty acts in one rule", Due.plan(x, 1, FORTY + ";"), 1);
        edge.is("a 41st", Due.plan(x, 1, FORTY + " and bell;"), -34);
        edge.is("the forty stay", x.run(1, 0), 40);
        String four = "first bell and bell and bell and bell;";
        edge.is("forty acts in ten rules", Due.plan(x, 2, four.repeat(10)), 10);
        edge.is("forty bells", x.run(2, 0), 40);
        edge.is("a 41st in an eleventh", Due.plan(x, 2, four.repeat(10) + "first bell;"), -34);
        edge.is("its place", x.fault(1), 386);
        edge.is("forty acts in twenty rules", Due.plan(x, 3, "ends 1out 0and bell;".repeat(20)), 20);
        edge.is("none of them vain", x.run(3, 2), 0);
    }

    private void tokens() {
        edge.of("TOKENS of both, as long as they go on");
        edge.text(-1, "candle5wax6draught7;candle8;", 0, -1);
        edge.text(-1, "candlewax 5;", 2, 0);
        edge.text(-1, "candle 5waxdraught 5;", 2, 8);
        edge.text(-1, "candle 6 0;", 3, 9);
        edge.text(-1, "candle 60;", 0, -1);
        edge.text(0, "firstbell;", 2, 0);
        edge.text(0, "ends7bell;first join7 6and bell;", 0, -1);
        edge.text(0, "first join 76;", 3, 11);
        UnevenWax x = new UnevenWax();
        Due.feed(x, "candle 60;candle");
        edge.is("a token ends with the text", x.cellar(8), -32);
        edge.is("its place", x.fault(1), 8);
        Due.feed(x, "candle 60;candle");
        edge.is("what is behind it is no matter", x.cellar(10), 1);
        Due.feed(x, "candle 9999999;");
        edge.is("three digits of more", x.cellar(10), -33);
    }

    /** Every byte between a word and a number. */
    private void blanks() {
        edge.of("between them blanks (10, 32)");
        for (int sign = 0; sign < 256; sign++) {
            UnevenWax x = new UnevenWax();
            int got = Due.cellar(x, "candle" + (char) sign + "5;");
            edge.is("sign " + sign, got, dueBetween(sign));
            edge.is("place of sign " + sign, x.fault(1), got == 1 ? -1 : sign >= 'a' && sign <= 'z' ? 0 : 6);
        }
        edge.text(0, "\n \nfirst\n\nbell  ;\n", 0, -1);
    }

    private static int dueBetween(int sign) {
        if (sign == 10 || sign == 32 || sign >= '0' && sign <= '5') {
            return 1;
        }
        if (sign >= '6' && sign <= '9') {
            return -33;
        }
        return sign >= 'a' && sign <= 'z' || sign == ';' ? -32 : -31;
    }

    private void words() {
        edge.of("words (small letters)");
        for (int sign = 0; sign < 256; sign++) {
            boolean begins = sign >= 'a' && sign <= 'z' || sign >= '0' && sign <= '9' || sign == ';';
            boolean blank = sign == 10 || sign == 32;
            String one = Character.toString((char) sign);
            edge.text(-1, one, blank ? 0 : begins ? 2 : 1, blank ? -1 : 0);
            edge.text(2, one, blank ? 0 : begins ? 2 : 1, blank ? -1 : 0);
        }
        edge.text(-1, "CANDLE 5;", 1, 0);
        edge.text(-1, "candlE 5;", 2, 0);
        edge.text(-1, "candle 5 Wax 5;", 1, 9);
    }

    private void numbers() {
        edge.of("N (1 to 3 digits)");
        edge.is("one", edge.text(-1, "candle 7;", 0, -1).candle(0, 1), 7);
        edge.is("two", edge.text(-1, "candle 07;", 0, -1).candle(0, 1), 7);
        edge.is("three", edge.text(-1, "candle 007;", 0, -1).candle(0, 1), 7);
        edge.text(-1, "candle 0007;", 1, 7);
        edge.is("all digits", edge.text(-1, "candle 1 wax 987;candle 1 wax 654;candle 1 wax 321;candle 10;", 0, -1).count(7), 987 + 654 + 321 + 60);
    }

    private void stops() {
        edge.of("the sign ;.");
        edge.text(-1, "candle 5:", 1, 8);
        edge.text(-1, "candle 5,", 1, 8);
        edge.text(-1, "candle 5.", 1, 8);
        edge.text(-1, "candle 5\n;", 0, -1);
    }

    private void firstFault() {
        edge.of("FAULTS, the first along the text");
        edge.text(-1, "candle 61 ?", 3, 7);
        edge.text(-1, "candle 5;candle 0;lamp;?", 3, 16);
        edge.text(-1, "lamp 0 ?", 2, 0);
        edge.text(-1, "? lamp", 1, 0);
        edge.text(-1, "candle 1 1 1 1 1 1 1 0", 4, 19);
        edge.text(1, "first light 8 and ?", 3, 12);
        edge.text(1, "first lamp 8;", 2, 6);
        edge.text(1, TWENTY + "first ?", 4, 220);
    }

    private void leastKind() {
        edge.of("of one TOKEN the least kind");
        edge.text(-1, "1000", 1, 0);
        edge.text(-1, "candle 5 wax 5 1000;", 1, 15);
        edge.text(-1, "candle 5 wax 5 0;", 2, 15);
        edge.text(-1, "candle 1 1 1 1 1 1 61;", 3, 19);
        edge.text(-1, "candle 1 1 1 1 1 1 1000;", 1, 19);
        edge.text(-1, EIGHT + "wax", 2, 72);
        edge.text(-1, EIGHT + "1000", 1, 72);
        edge.text(0, TWENTY + "bell", 2, 220);
        edge.text(0, TWENTY + "=", 1, 220);
        edge.text(0, FORTY + " and first", 2, FORTY.length() + 5);
        edge.text(0, FORTY + " and 1000", 1, FORTY.length() + 5);
        edge.text(0, "first 999;", 2, 6);
        edge.text(0, "first light 0 999;", 2, 14);
    }

    private void noToken() {
        edge.of("1 no TOKEN begins so (4 digits and more: at their first).");
        edge.text(-1, "candle 1000;", 1, 7);
        edge.text(-1, "candle 0000;", 1, 7);
        edge.text(-1, "candle 12345678901234567890;", 1, 7);
        edge.text(-1, "candle 5 1000", 1, 9);
        edge.text(-1, "0000", 1, 0);
        edge.text(0, "ends 0001 bell;", 1, 5);
        edge.text(0, "first light 4294967296;", 1, 12);
        edge.text(-1, "candle 5-;", 1, 8);
        edge.text(-1, "candle 5" + (char) 128 + ";", 1, 8);
        edge.text(-1, "candle 5" + (char) 255 + ";", 1, 8);
        edge.text(-1, "candle 5" + (char) 0 + ";", 1, 8);
    }

    private void outOfPlace() {
        edge.of("2 it can't stand there (the end: the text's length).");
        edge.text(-1, "candle", 2, 6);
        edge.text(-1, "candle   ", 2, 9);
        edge.text(-1, "candle 5", 2, 8);
        edge.text(-1, "candle 5\n\n", 2, 10);
        edge.text(-1, "candle 5 wax", 2, 12);
        edge.text(-1, "candle 5 wax 5", 2, 14);
        edge.text(-1, "candle 5 draught 5 ", 2, 19);
        edge.text(0, "first", 2, 5);
        edge.text(0, "first bell and ", 2, 15);
        edge.text(0, "first join 1 ", 2, 13);
        UnevenWax x = new UnevenWax();
        Due.feed(x, "candle 5");
        edge.is("with blanks of the tape", x.cellar(20), -32);
        edge.is("the text's length, not the last token's", x.fault(1), 20);
    }

    private void outOfBounds() {
        edge.of("3 an N out of its bounds.");
        edge.text(-1, "candle 5 0;", 3, 9);
        edge.text(-1, "candle 5 61 ", 3, 9);
        edge.text(-1, "candle 5 wax 000", 3, 13);
        edge.text(-1, "candle 5 draught 051", 3, 17);
        edge.text(0, "ends 008", 3, 5);
        edge.text(0, "first out 010", 3, 10);
    }

    private void tooMany() {
        edge.of("4 the first TOKEN of a 9th candle, a 21st RULE, a 41st ACT; a 7th PIECE.");
        edge.text(-1, EIGHT + "\n candle 5;", 4, 74);
        edge.text(-1, EIGHT + "candle", 4, 72);
        edge.text(-1, "candle 1 1 1 1 1 1 1", 4, 19);
        edge.text(-1, "candle 1 1 1 1 1 1  60 wax", 4, 20);
        edge.text(2, TWENTY + " first bell;", 4, 221);
        edge.text(2, TWENTY + "ends 9", 4, 220);
        edge.text(2, FORTY + "\nand\nbell;", 4, FORTY.length() + 5);
        edge.text(2, FORTY + " and join", 4, FORTY.length() + 5);
        edge.text(2, FORTY + " and", 2, FORTY.length() + 4);
        edge.text(2, FORTY + ";first light 0;", 4, FORTY.length() + 7);
    }

    private void newObject() {
        edge.of("`UnevenWax()`: No CANDLES; empty PLANS.");
        UnevenWax x = new UnevenWax();
        edge.is("candles", x.count(0), 0);
        edge.is("lines", x.count(6), 0);
        edge.is("wax", x.count(7), 0);
        edge.is("candle 0", x.candle(0, 0), -2);
        edge.is("the tape", x.count(5), 0);
        for (int p = 0; p < 4; p++) {
            edge.is("rules", x.count(1 + p), 0);
            edge.is("bells", x.run(p, 0), 0);
            edge.is("over", x.run(p, 1), 0);
            edge.is("vain", x.run(p, 2), 0);
            edge.is("lit", x.run(p, 3), 0);
            edge.is("wax", x.run(p, 4), 0);
            edge.is("idle", x.idle(p), 0);
            edge.is("vain act", x.vain(p, 0), -1);
            edge.is("spare act", x.spare(p, 0), -1);
        }
    }

    private void feed() {
        edge.of("Twenty bytes come behind those on THE TAPE, the highest of each int first: how many it has.");
        UnevenWax x = new UnevenWax();
        // "candle 1 wax 2;", then "candle 3 wax 4;", each with blanks up to twenty bytes.
        edge.is("twenty", x.feed(0x63616e64, 0x6c652031, 0x20776178, 0x20323b20, BLANKS), 20);
        edge.is("forty", x.feed(0x63616e64, 0x6c652033, 0x20776178, 0x20343b20, BLANKS), 40);
        edge.is("both", x.cellar(40), 2);
        edge.is("minutes", x.candle(0, 1) * 10 + x.candle(1, 1), 13);
        edge.is("wax", x.candle(0, 2) * 10 + x.candle(1, 2), 24);
        for (int place = 0; place < 20; place++) {
            int[] five = {BLANKS, BLANKS, BLANKS, BLANKS, BLANKS};
            int shift = 24 - place % 4 * 8;
            five[place / 4] = BLANKS & ~(255 << shift) | 0xff << shift;
            x.feed(five[0], five[1], five[2], five[3], five[4]);
            edge.is("a sign of 255 at " + place, x.cellar(20), -31);
            edge.is("its place", x.fault(1), place);
        }
        edge.is("the least int", x.feed(Integer.MIN_VALUE, -1, -1, -1, -1), 20);
        edge.is("is four bytes", x.cellar(4), -31);
        edge.is("of which the first is strange", x.fault(1), 0);
    }

    private void feedTooMuch() {
        edge.of("-5: it would have more than 400.");
        UnevenWax x = new UnevenWax();
        for (int i = 1; i < 20; i++) {
            x.feed(BLANKS, BLANKS, BLANKS, BLANKS, BLANKS);
        }
        edge.is("380", x.count(5), 380);
        edge.is("just 400", x.feed(BLANKS, BLANKS, BLANKS, BLANKS, 0x2020203b), 400);
        edge.is("more", x.feed(BLANKS, BLANKS, BLANKS, BLANKS, BLANKS), -5);
        edge.is("more again", x.feed(-1, -1, -1, -1, -1), -5);
        edge.is("400 stay", x.count(5), 400);
        edge.is("as they were", x.cellar(400), -32);
        edge.is("the last of them", x.fault(1), 399);
        edge.is("room again", x.feed(BLANKS, BLANKS, BLANKS, BLANKS, BLANKS), 20);
    }

    private void cellar() {
        edge.of("The first n bytes of THE TAPE (which is empty then) are THE CELLAR (PLANS stay): how many LINES");
        UnevenWax x = Due.of("candle 9;", "first bell;", "first light 0;ends 0 bell;", "first bell;first bell;first bell;", "ends 7 bell;");
        Due.feed(x, "candle 5;candle 6;candle 7;");
        edge.is("all but the last", x.cellar(18), 2);
        edge.is("the tape is empty then", x.count(5), 0);
        edge.is("nothing is left of it", x.cellar(1), -3);
        edge.is("candles", x.count(0), 2);
        int[] rules = {1, 2, 3, 1};
        for (int p = 0; p < 4; p++) {
            edge.is("plan " + p + " stays", x.count(1 + p), rules[p]);
        }
        edge.is("its run goes by the new candles", x.bell(1, 0), 5 * 256);
        Due.feed(x, "candle 8;");
        edge.is("nothing of the tape", x.cellar(0), 0);
        edge.is("no candles", x.count(0), 0);
        edge.is("the tape is empty all the same", x.count(5), 0);
    }

    private void cellarStays() {
        edge.of("(that there was stays with a FAULT).");
        UnevenWax x = Due.of("candle 9 8 wax 7 draught 6;candle 5;", "first light 0;ends 0 bell;");
        String[] wrong = {"candle 1;candle 2;?", "candle 1 1 1 1 1 1 1;", "candle 1 wax 2 draught 51;", "candle 1", "lamp"};
        for (String text : wrong) {
            edge.isTrue("refused", Due.cellar(x, text) < -30);
            edge.is("the tape is empty", x.count(5), 0);
            edge.is("candles", x.count(0), 2);
            edge.is("pieces", x.candle(0, 0), 2);
            edge.is("minutes", x.candle(0, 1), 17);
            edge.is("wax", x.candle(0, 2), 7);
            edge.is("draught", x.candle(0, 3), 6);
            edge.is("the other", x.candle(1, 1), 5);
            edge.is("bell", x.bell(0, 0), 17 * 256);
        }
    }

    private void cellarNumber() {
        edge.of("-3: n is below 0 or above what there is (THE TAPE stays); -30 less the FAULT.");
        UnevenWax x = new UnevenWax();
        edge.is("above 0 bytes", x.cellar(1), -3);
        Due.feed(x, "candle 5;");
        edge.is("-1", x.cellar(-1), -3);
        edge.is("the least", x.cellar(Integer.MIN_VALUE), -3);
        edge.is("21", x.cellar(21), -3);
        edge.is("the most", x.cellar(Integer.MAX_VALUE), -3);
        edge.is("the tape stays", x.count(5), 20);
        edge.is("all of it", x.cellar(20), 1);
    }

    private void cellarFault() {
        edge.of("-30 less the FAULT.");
        String[] wrong = {"?", "lamp", "candle 0;", EIGHT + "candle 5;"};
        for (int kind = 1; kind <= 4; kind++) {
            UnevenWax x = new UnevenWax();
            edge.is(wrong[kind - 1], Due.cellar(x, wrong[kind - 1]), -30 - kind);
            edge.is("its fault", x.fault(0), kind);
        }
    }

    private void plan() {
        edge.of("Likewise a PLAN: how many RULES.");
        UnevenWax x = Due.of("candle 9;candle 8;", "first bell;", "first bell;", "first bell;", "first bell;");
        Due.feed(x, "first bell;ends 0 bell;ends 1 bell;");
        edge.is("all but the last", x.plan(2, 23), 2);
        edge.is("the tape is empty then", x.count(5), 0);
        edge.is("the cellar stays", x.count(0), 2);
        for (int p = 0; p < 4; p++) {
            edge.is("rules of " + p, x.count(1 + p), p == 2 ? 2 : 1);
        }
        Due.feed(x, "first ring;");
        edge.is("a fault", x.plan(2, 11), -32);
        edge.is("the tape is empty all the same", x.count(5), 0);
        edge.is("what there was stays", x.count(3), 2);
        edge.is("nothing of the tape", x.plan(2, 0), 0);
        edge.is("no rules", x.count(3), 0);
        Due.feed(x, "first bell;");
        edge.is("nothing of a tape that is not empty", x.plan(1, 0), 0);
        edge.is("it is empty then", x.count(5), 0);
    }

    private void planNone() {
        edge.of("-2: no such PLAN (THE TAPE stays); -3; -30 less the FAULT.");
        UnevenWax x = new UnevenWax();
        Due.feed(x, "first bell;");
        int[] none = {-1, 4, Integer.MIN_VALUE, Integer.MAX_VALUE};
        for (int p : none) {
            edge.is("plan(" + p + ", 11)", x.plan(p, 11), -2);
            edge.is("plan(" + p + ", 21): the plan is told first", x.plan(p, 21), -2);
            edge.is("plan(" + p + ", -1): the plan is told first", x.plan(p, -1), -2);
        }
        edge.is("the tape stays", x.count(5), 20);
        edge.is("plan 3", x.plan(3, 11), 1);
    }

    private void planNumber() {
        edge.of("-3; -30 less the FAULT.");
        UnevenWax x = new UnevenWax();
        edge.is("above 0 bytes", x.plan(0, 1), -3);
        Due.feed(x, "first ring;");
        edge.is("-1", x.plan(0, -1), -3);
        edge.is("the least", x.plan(3, Integer.MIN_VALUE), -3);
        edge.is("21", x.plan(0, 21), -3);
        edge.is("the most", x.plan(3, Integer.MAX_VALUE), -3);
        edge.is("the tape stays", x.count(5), 20);
        edge.is("all of it", x.plan(0, 20), -32);
    }

    private void planFault() {
        edge.of("`int plan(int p, int n)`: Likewise a PLAN: how many RULES. -2: no such PLAN (THE TAPE stays); -3; -30 less the FAULT.");
        String[] wrong = {"?", "ring", "ends 8 bell;", TWENTY + "first bell;"};
        for (int kind = 1; kind <= 4; kind++) {
            UnevenWax x = new UnevenWax();
            edge.is(wrong[kind - 1], Due.plan(x, kind - 1, wrong[kind - 1]), -30 - kind);
            edge.is("its fault", x.fault(0), kind);
        }
    }

    private void fault() {
        edge.of("Of the latest text that was read, what 0: its FAULT (0), 1: its place (NONE).");
        UnevenWax x = new UnevenWax();
        edge.is("of none, fault", x.fault(0), 0);
        edge.is("of none, place", x.fault(1), -1);
        Due.cellar(x, "candle 5 ?");
        edge.is("of a cellar", x.fault(0), 1);
        edge.is("its place", x.fault(1), 9);
        Due.plan(x, 3, "first light 9;");
        edge.is("of a plan", x.fault(0), 3);
        edge.is("its place", x.fault(1), 12);
        x.cellar(-1);
        x.plan(4, 0);
        x.plan(0, 1);
        edge.is("no text was read by refused calls", x.fault(0), 3);
        edge.is("the place stays", x.fault(1), 12);
        x.plan(0, 0);
        edge.is("of an empty text", x.fault(0), 0);
        edge.is("its place", x.fault(1), -1);
        Due.cellar(x, "lamp");
        edge.is("place 0", x.fault(1), 0);
        x.image(0);
        Due.cellar(x, "candle 5;");
        x.restore(0);
        edge.is("an image has no fault", x.fault(0), 0);
    }

    private void faultNone() {
        edge.of("1: its place (NONE). NONE for others.");
        UnevenWax x = new UnevenWax();
        Due.cellar(x, "candle 5 0;");
        int[] others = {-1, 2, 3, Integer.MIN_VALUE, Integer.MAX_VALUE};
        for (int what : others) {
            edge.is("fault(" + what + ")", x.fault(what), -1);
        }
    }

    private void candle() {
        edge.of("Of a CANDLE, what 0: PIECES, 1: minutes in all, 2: wax, 3: draught, 10 + k: minutes of PIECE k.");
        UnevenWax x = Due.of("candle 1 wax 1;" + LONGEST_LINE + "candle 11 12 13 14 15 16 wax 21 draught 22;");
        edge.is("pieces, the fewest", x.candle(0, 0), 1);
        edge.is("pieces, the most", x.candle(1, 0), 6);
        edge.is("minutes, the fewest", x.candle(0, 1), 1);
        edge.is("minutes, the most", x.candle(1, 1), 360);
        edge.is("wax, the least", x.candle(0, 2), 1);
        edge.is("wax, the most", x.candle(1, 2), 999);
        edge.is("draught, the least", x.candle(0, 3), 0);
        edge.is("draught, the most", x.candle(1, 3), 50);
        for (int k = 0; k < 6; k++) {
            edge.is("piece " + k, x.candle(2, 10 + k), 11 + k);
        }
    }

    private void candleNone() {
        edge.of("10 + k: minutes of PIECE k. -2.");
        UnevenWax x = Due.of("candle 1 2;candle 1 2 3 4 5 6;");
        int[] none = {-1, 2, 8, Integer.MIN_VALUE, Integer.MAX_VALUE};
        for (int c : none) {
            edge.is("candle(" + c + ", 0)", x.candle(c, 0), -2);
            edge.is("candle(" + c + ", 10)", x.candle(c, 10), -2);
        }
        int[] whats = {-1, 4, 9, 12, 16, Integer.MIN_VALUE, Integer.MAX_VALUE};
        for (int what : whats) {
            edge.is("candle(0, " + what + ")", x.candle(0, what), -2);
        }
        edge.is("piece 5", x.candle(1, 15), 6);
        edge.is("piece 6", x.candle(1, 16), -2);
    }

    private void none() {
        edge.of("`NONE = -1`: There is none.");
        edge.is("NONE", UnevenWax.NONE, -1);
        edge.is("a place of none", new UnevenWax().fault(1), UnevenWax.NONE);
    }
}
