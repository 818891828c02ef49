/** What the tests share: texts for the tape, and a count of answers that were not as due. */
final class Due {
    private final String name;
    private int asked;
    private int wrong;

    Due(String name) {
        this.name = name;
    }

    void is(String call, long got, long want) {
        asked++;
        if (got != want) {
            wrong++;
            System.out.println(name + ": " + call + " answered " + got + ", due is " + want);
        }
    }

    void isTrue(String what, boolean so) {
        is(what, so ? 1 : 0, 1);
    }

    void close() {
        System.out.println(name + ": " + asked + " answers, " + wrong + " not as due");
        if (wrong != 0 || asked == 0) {
            System.exit(1);
        }
    }

    /** Feeds a text, with blanks up to twenty bytes; how many bytes the text has. */
    static int feed(UnevenWax x, String text) {
        int[] five = new int[5];
        for (int from = 0; from < text.length(); from += 20) {
            for (int i = 0; i < 5; i++) {
                five[i] = 0;
                for (int j = 0; j < 4; j++) {
                    int at = from + 4 * i + j;
                    five[i] = five[i] << 8 | (at < text.length() ? text.charAt(at) : ' ');
                }
            }
            x.feed(five[0], five[1], five[2], five[3], five[4]);
        }
        return text.length();
    }

    static int cellar(UnevenWax x, String text) {
        return x.cellar(feed(x, text));
    }

    static int plan(UnevenWax x, int p, String text) {
        return x.plan(p, feed(x, text));
    }

    static UnevenWax of(String cellar, String... plans) {
        UnevenWax x = new UnevenWax();
        if (cellar(x, cellar) < 0) {
            throw new IllegalStateException("the test's own cellar is refused: " + cellar);
        }
        for (int p = 0; p < plans.length; p++) {
            if (plan(x, p, plans[p]) < 0) {
                throw new IllegalStateException("the test's own plan is refused: " + plans[p]);
            }
        }
        return x;
    }

    static void row(UnevenWax x, int row, int sort, long... numbers) {
        x.numbers(row, sort, numbers.length);
        for (int i = 0; i < numbers.length; i++) {
            x.write(row, i, numbers[i]);
        }
    }
}
