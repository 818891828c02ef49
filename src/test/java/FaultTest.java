/** Faults of many spoilt texts against a slow reader. */
public final class FaultTest {
    private static final Due due = new Due("FaultTest");
    private static final String[] BITS = {"candle", "wax", "draught", "first", "ends", "light", "both", "out", "join", "bell", "and", ";", ";",
        "0", "1", "7", "8", "50", "51", "60", "61", "999", "1000", "00005", "lamp", "?", "A", "\n", "candle 5;", "first bell;", " and bell", " 5"};
    private static int draw = 33;

    public static void main(String[] args) {
        for (int i = 0; i < 6000; i++) {
            boolean cellar = i % 2 == 0;
            compare(spoilt(cellar ? someCellar() : somePlan()), cellar);
        }
        due.close();
    }

    private static int below(int n) {
        draw = draw * 1664525 + 1013904223;
        return (draw >>> 8) % n;
    }

    private static String someCellar() {
        StringBuilder text = new StringBuilder();
        for (int c = 1 + below(9); c > 0; c--) {
            text.append("candle");
            for (int k = 1 + below(7); k > 0; k--) {
                text.append(' ').append(below(62));
            }
            text.append(below(3) == 0 ? " wax " + below(1001) : "").append(below(3) == 0 ? " draught " + below(52) : "").append(';');
        }
        return text.toString();
    }

    private static String somePlan() {
        StringBuilder text = new StringBuilder();
        int rules = below(6) == 0 ? 21 : 1 + below(8);
        for (int r = 0; r < rules; r++) {
            text.append(below(2) == 0 ? "first " : "ends " + below(8) + " ");
            int acts = rules > 8 ? 1 : 1 + below(below(5) == 0 ? 20 : 4);
            for (int k = 0; k < acts; k++) {
                String[] all = {"bell", "bell", "light " + below(8), "out " + below(8), "both " + below(9), "join 1 " + below(8)};
                text.append(k > 0 ? " and " : "").append(rules > 8 || acts > 4 ? "bell" : all[below(all.length)]);
            }
            text.append(';');
        }
        return text.toString();
    }

    private static String spoilt(String text) {
        String made = text;
        for (int times = below(3); times > 0; times--) {
            int at = below(made.length() + 1);
            int to = Math.min(made.length(), at + below(5));
            switch (below(4)) {
                case 0: made = made.substring(0, at) + " " + BITS[below(BITS.length)] + " " + made.substring(at); break;
                case 1: made = made.substring(0, at) + made.substring(to); break;
                case 2: made = made.substring(0, at) + (char) below(256) + made.substring(at); break;
                default: made = made.replace(" ", below(2) == 0 ? "\n" : "  "); break;
            }
        }
        return made.substring(0, Math.min(400, made.length()));
    }

    private static void compare(String text, boolean cellar) {
        UnevenWax x = new UnevenWax();
        int got = cellar ? Due.cellar(x, text) : Due.plan(x, 1, text);
        int[] want = SlowReader.firstFault(text, cellar);
        String name = text + " ";
        due.is(name + "answer", got, want[0] == 0 ? want[2] : -30 - want[0]);
        due.is(name + "fault(0)", x.fault(0), want[0]);
        due.is(name + "fault(1)", x.fault(1), want[1]);
    }
}
