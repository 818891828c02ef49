import java.util.ArrayList;
import java.util.List;
import java.util.regex.Matcher;
import java.util.regex.Pattern;

/** A slow reader: the shortest beginning that no text can go on from is at fault. */
final class SlowReader {
    private static final Pattern TOKEN = Pattern.compile("[ \n]*([a-z]+|[0-9]+|;|\\z|[^ \n])");
    private static final Pattern CELLAR = Pattern.compile("(cn+(wn)?(dn)?;)*");
    private static final Pattern PLAN = Pattern.compile("((f|en)(ln|bn|on|jnn|r)(a(ln|bn|on|jnn|r))*;)*");
    private static final String[] CELLAR_WORDS = {"candle", "wax", "draught"};
    private static final String CELLAR_SIGNS = "cwd";
    private static final String[] PLAN_WORDS = {"first", "ends", "light", "both", "out", "join", "bell", "and"};
    private static final String PLAN_SIGNS = "felbojra";

    private SlowReader() {
    }

    /** The kind of the first fault and its place, or 0, NONE and how many stops there are. */
    static int[] firstFault(String text, boolean cellar) {
        List<String> tokens = new ArrayList<>();
        List<Integer> places = new ArrayList<>();
        Matcher matcher = TOKEN.matcher(text);
        for (int at = 0; at <= text.length() && matcher.find(at); at = Math.max(at + 1, matcher.end())) {
            tokens.add(matcher.group(1));
            places.add(matcher.start(1));
            if (matcher.group(1).isEmpty()) {
                break;
            }
        }
        StringBuilder signs = new StringBuilder();
        for (int i = 0; i < tokens.size(); i++) {
            int kind = kindOf(tokens.get(i), signs, cellar);
            if (kind != 0) {
                return new int[] {kind, places.get(i), 0};
            }
        }
        return new int[] {0, -1, signs.length() - signs.toString().replace(";", "").length()};
    }

    /** The fault of a token behind the signs so far, which it comes behind; the end is an empty token. */
    private static int kindOf(String token, StringBuilder signs, boolean cellar) {
        if (!token.matches("[a-z]+|[0-9]{1,3}|;|")) {
            return 1;
        }
        Pattern grammar = cellar ? CELLAR : PLAN;
        if (token.isEmpty()) {
            return grammar.matcher(signs).matches() ? 0 : 2;
        }
        signs.append(signOf(token, cellar));
        Matcher matcher = grammar.matcher(signs);
        if (!matcher.matches() && !matcher.hitEnd()) {
            return 2;
        }
        String all = signs.toString();
        if (all.endsWith("n") && !withinBounds(Integer.parseInt(token), all, cellar)) {
            return 3;
        }
        return tooMany(all, cellar) ? 4 : 0;
    }

    private static char signOf(String token, boolean cellar) {
        String[] words = cellar ? CELLAR_WORDS : PLAN_WORDS;
        for (int i = 0; i < words.length; i++) {
            if (words[i].equals(token)) {
                return (cellar ? CELLAR_SIGNS : PLAN_SIGNS).charAt(i);
            }
        }
        return token.equals(";") ? ';' : Character.isDigit(token.charAt(0)) ? 'n' : '!';
    }

    private static boolean withinBounds(int number, String all, boolean cellar) {
        if (!cellar) {
            return number <= 7;
        }
        if (all.endsWith("wn")) {
            return number >= 1;
        }
        return all.endsWith("dn") ? number <= 50 : number >= 1 && number <= 60;
    }

    private static boolean tooMany(String all, boolean cellar) {
        if (cellar) {
            return count(all, "c") > 8 || all.matches(".*cn{7}");
        }
        return count(all, "fe") > 20 || count(all, "lbojr") > 40;
    }

    private static int count(String all, String signs) {
        return all.replaceAll("[^" + signs + "]", "").length();
    }
}
