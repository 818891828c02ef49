import java.util.ArrayList;
import java.util.List;
import java.util.regex.Matcher;
import java.util.regex.Pattern;

/** Faults of many spoilt texts against a slow reader: the shortest beginning that no text can go on from is at fault. */
public final class FaultTest {
    private static final Due due = new Due("FaultTest");
    private static final Pattern TOKEN = Pattern.compile("[ \n]*([a-z]+|[0-9]+|;|$|[^ \n])");
    private static final Pattern CELLAR = Pattern.compile("(cn+(wn)?(dn)?;)*");
    private static final Pattern PLAN = Pattern.compile("((f|en)(ln|bn|on|jnn|r)(a(ln|bn|on|jnn|r))*;)*");
    private static final String[] CELLAR_WORDS = {"candle", "wax", "draught"};
    private static final String CELLAR_SIGNS = "cwd";
    private static final String[] PLAN_WORDS = {"first", "ends", "light", "both", "out", "join", "bell", "and"};
    private static final String PLAN_SIGNS = "felbojra";
    private static final String[] BITS = {"candle", "wax", "draught", "first", "ends", "light", "both", "out", "join", "bell", "and", ";", ";",
        "0", "1", "7", "8", "50", "51", "60", "61", "999", "1000", "00005", "lamp", "?", "A", "\n", "candle 5;", "first bell;", " and bell", " 5"};
    private static int draw = 33;

    public static void main(String[] args) {
        for (int i = 0; i < 6000; i++) {
            boolean cellar = i % 2 == 0;
            compare(spoilt(cellar ? someCellar() : somePlan()), cellar);
        }
        due.close();
    }

    private static int below(int n) {
        draw = draw * 1664525 + 1013904223;
        return (draw >>> 8) % n;
    }

    private static String someCellar() {
        StringBuilder text = new StringBuilder();
        for (int c = 1 + below(9); c > 0; c--) {
            text.append("candle");
            for (int k = 1 + below(7); k > 0; k--) {
                text.append(' ').append(below(62));
            }
            text.append(below(3) == 0 ? " wax " + below(1001) : "").append(below(3) == 0 ? " draught " + below(52) : "").append(';');
        }
        return text.toString();
    }

    private static String somePlan() {
        StringBuilder text = new StringBuilder();
        int rules = below(6) == 0 ? 21 : 1 + below(8);
        for (int r = 0; r < rules; r++) {
            text.append(below(2) == 0 ? "first " : "ends " + below(8) + " ");
            int acts = rules > 8 ? 1 : 1 + below(below(5) == 0 ? 20 : 4);
            for (int k = 0; k < acts; k++) {
                String[] all = {"bell", "bell", "light " + below(8), "out " + below(8), "both " + below(9), "join 1 " + below(8)};
                text.append(k > 0 ? " and " : "").append(rules > 8 || acts > 4 ? "bell" : all[below(all.length)]);
            }
            text.append(';');
        }
        return text.toString();
    }

    private static String spoilt(String text) {
        String made = text;
        for (int times = below(3); times > 0; times--) {
            int at = below(made.length() + 1);
            int to = Math.min(made.length(), at + below(5));
            switch (below(4)) {
                case 0: made = made.substring(0, at) + " " + BITS[below(BITS.length)] + " " + made.substring(at); break;
                case 1: made = made.substring(0, at) + made.substring(to); break;
                case 2: made = made.substring(0, at) + (char) below(256) + made.substring(at); break;
                default: made = made.replace(" ", below(2) == 0 ? "\n" : "  "); break;
            }
        }
        return made.substring(0, Math.min(400, made.length()));
    }

    private static void compare(String text, boolean cellar) {
        UnevenWax x = new UnevenWax();
        int got = cellar ? Due.cellar(x, text) : Due.plan(x, 1, text);
        int[] want = firstFault(text, cellar);
        String name = text + " ";
        due.is(name + "answer", got, want[0] == 0 ? want[2] : -30 - want[0]);
        due.is(name + "fault(0)", x.fault(0), want[0]);
        due.is(name + "fault(1)", x.fault(1), want[1]);
    }

    /** The kind of the first fault and its place, or 0, NONE and how many stops there are. */
    private static int[] firstFault(String text, boolean cellar) {
        List<String> tokens = new ArrayList<>();
        List<Integer> places = new ArrayList<>();
        Matcher matcher = TOKEN.matcher(text);
        for (int at = 0; at <= text.length() && matcher.find(at); at = Math.max(at + 1, matcher.end())) {
            tokens.add(matcher.group(1));
            places.add(matcher.start(1));
            if (matcher.group(1).isEmpty()) {
                break;
            }
        }
        StringBuilder signs = new StringBuilder();
        for (int i = 0; i < tokens.size(); i++) {
            int kind = kindOf(tokens.get(i), signs, cellar);
            if (kind != 0) {
                return new int[] {kind, places.get(i), 0};
            }
        }
        return new int[] {0, -1, signs.length() - signs.toString().replace(";", "").length()};
    }

    /** The fault of a token behind the signs so far, which it comes behind; the end is an empty token. */
    private static int kindOf(String token, StringBuilder signs, boolean cellar) {
        if (!token.matches("[a-z]+|[0-9]{1,3}|;|")) {
            return 1;
        }
        Pattern grammar = cellar ? CELLAR : PLAN;
        if (token.isEmpty()) {
            return grammar.matcher(signs).matches() ? 0 : 2;
        }
        signs.append(signOf(token, cellar));
        Matcher matcher = grammar.matcher(signs);
        if (!matcher.matches() && !matcher.hitEnd()) {
            return 2;
        }
        String all = signs.toString();
        if (all.endsWith("n") && !withinBounds(Integer.parseInt(token), all, cellar)) {
            return 3;
        }
        return tooMany(all, cellar) ? 4 : 0;
    }

    private static char signOf(String token, boolean cellar) {
        String[] words = cellar ? CELLAR_WORDS : PLAN_WORDS;
        for (int i = 0; i < words.length; i++) {
            if (words[i].equals(token)) {
                return (cellar ? CELLAR_SIGNS : PLAN_SIGNS).charAt(i);
            }
        }
        return token.equals(";") ? ';' : Character.isDigit(token.charAt(0)) ? 'n' : '!';
    }

    private static boolean withinBounds(int number, String all, boolean cellar) {
        if (!cellar) {
            return number <= 7;
        }
        if (all.endsWith("wn")) {
            return number >= 1;
        }
        return all.endsWith("dn") ? number <= 50 : number >= 1 && number <= 60;
    }

    private static boolean tooMany(String all, boolean cellar) {
        if (cellar) {
            return count(all, "c") > 8 || all.matches(".*cn{7}");
        }
        return count(all, "fe") > 20 || count(all, "lbojr") > 40;
    }

    private static int count(String all, String signs) {
        return all.replaceAll("[^" + signs + "]", "").length();
    }
}
