import java.lang.reflect.Method;
import java.util.ArrayList;
import java.util.LinkedHashMap;
import java.util.List;
import java.util.Map;

/** Long runs of every call in any order, with texts, rows and images that change between them, against the model. */
public final class ModelTest {
    private static final Due due = new Due("ModelTest");
    private static final int CALLS = 512;
    /** What each call takes, a letter an argument; argument() says what the letters mean. */
    private static final String[] FACE = {"feed XXXXX", "cellar N", "plan PN", "fault W", "candle CW", "length CT", "meet C", "halves C",
        "piece CTF", "run PW", "bell PK", "ends PC", "rest PCT", "flames PCT", "idle P", "vain PK", "spare PK", "would PKCM", "off PKO",
        "night PXK", "chime PP", "days PYC", "can SFT", "time SFK", "between SFT", "least TFO", "fewest SFT", "burnt SFT", "given SFTK",
        "lacks SFGK", "together SFR", "leastFor RF", "nearest SFT", "along ST", "alongs SK", "serves PRD", "fittest RD", "log R",
        "nearly RD", "missed PRK", "stolen PR", "numbers RON", "write RKV", "copy PR", "image I", "restore I", "count W"};
    private static final int[] STRANGE = {Integer.MIN_VALUE, Integer.MIN_VALUE + 1, -257, -2, -1, 0, 1, 5, 8, 15, 40, 41, 255, 401, 1 << 16,
        200000, Integer.MAX_VALUE};

    private final Map<String, Method[]> methods = new LinkedHashMap<>();
    private final int run;
    private final UnevenWax wax = new UnevenWax();
    private final Model model = new Model();
    private final List<String> asked = new ArrayList<>();
    private final List<Object[]> askedWith = new ArrayList<>();
    private int draw;

    private ModelTest(int run) throws ReflectiveOperationException {
        this.run = run;
        draw = run * 7919 + 48;
        for (String each : FACE) {
            String name = each.substring(0, each.indexOf(' '));
            for (Method method : UnevenWax.class.getMethods()) {
                if (method.getName().equals(name) && method.getDeclaringClass() == UnevenWax.class) {
                    methods.put(each, new Method[] {method, Model.class.getDeclaredMethod(name, method.getParameterTypes())});
                }
            }
        }
    }

    public static void main(String[] args) throws ReflectiveOperationException {
        int runs = args.length > 0 ? Integer.parseInt(args[0]) : 120;
        int first = args.length > 1 ? Integer.parseInt(args[1]) : 0;
        due.is("calls of the face", FACE.length, 47);
        for (int i = first; i < first + runs; i++) {
            new ModelTest(i).play();
        }
        due.close();
    }

    private void play() throws ReflectiveOperationException {
        due.is("each call is found", methods.size(), FACE.length);
        read("cellar N", someCellar());
        for (int p = 0; p < 4; p++) {
            read("plan PN", somePlan(), p);
        }
        while (asked.size() < CALLS - 30) {
            String which = FACE[below(FACE.length)];
            if (below(3) == 0) {
                askAgain();
            } else if (which.equals("cellar N")) {
                read(which, spoilt(someCellar()));
            } else if (which.equals("plan PN")) {
                read(which, spoilt(somePlan()), argument('P'));
            } else if (which.equals("numbers RON") && below(2) == 0) {
                fillRow();
            } else {
                ask(which, arguments(which));
            }
        }
    }

    private int below(int n) {
        draw = draw * 1664525 + 1013904223;
        return (draw >>> 8) % n;
    }

    // ---- calls

    /** What was kept of an earlier answer must not outlive a change of texts, rows or images. */
    private void askAgain() throws ReflectiveOperationException {
        int back = 1 + below(40);
        if (back <= asked.size()) {
            int i = asked.size() - back;
            ask(asked.get(i), askedWith.get(i));
        }
    }

    private void ask(String which, Object[] arguments) throws ReflectiveOperationException {
        if (which.startsWith("least") && model.count(0) > 4) {
            // The model is too slow to look for the least set of many candles.
            return;
        }
        asked.add(which);
        askedWith.add(arguments);
        Method[] pair = methods.get(which);
        long got = ((Number) pair[0].invoke(wax, arguments)).longValue();
        long want = ((Number) pair[1].invoke(model, arguments)).longValue();
        due.is("run " + run + ", call " + asked.size() + ": " + which + " " + List.of(arguments), got, want);
    }

    private void read(String which, String text, Object... plan) throws ReflectiveOperationException {
        Object[] off = {plan.length > 0 ? plan[0] : run & 3, 0, below(2)};
        ask("off PKO", off);
        for (int from = 0; from < text.length(); from += 20) {
            Object[] five = new Object[5];
            for (int i = 0; i < 5; i++) {
                int four = 0;
                for (int at = from + 4 * i; at < from + 4 * i + 4; at++) {
                    four = four << 8 | (at < text.length() ? text.charAt(at) : ' ');
                }
                five[i] = four;
            }
            ask("feed XXXXX", five);
        }
        int n = below(20) == 0 ? (int) argument('N') : text.length();
        ask(which, plan.length > 0 ? new Object[] {plan[0], n} : new Object[] {n});
        ask("fault W", new Object[] {0});
        ask("fault W", new Object[] {1});
        ask("off PKO", off);
        for (int what = 0; what < 4; what++) {
            ask("candle CW", new Object[] {below(1 + model.count(0)), what});
        }
    }

    private void fillRow() throws ReflectiveOperationException {
        int row = below(4);
        int n = below(4);
        ask("numbers RON", new Object[] {row, 1 + below(3), n});
        boolean inOrder = below(2) == 0;
        int p = below(4);
        for (int i = 0; i < n; i++) {
            Object number = inOrder ? (Object) (long) model.bell(p, i + below(2)) : argument('V');
            ask("write RKV", new Object[] {row, i, number});
        }
    }

    private Object[] arguments(String which) {
        String kinds = which.substring(which.indexOf(' ') + 1);
        Object[] arguments = new Object[kinds.length()];
        for (int i = 0; i < arguments.length; i++) {
            arguments[i] = argument(kinds.charAt(i));
        }
        return arguments;
    }

    private Object argument(char kind) {
        if (kind == 'F') {
            return below(2) == 0;
        }
        if (kind == 'V') {
            return below(8) == 0 ? (long) STRANGE[below(STRANGE.length)] * STRANGE[below(STRANGE.length)] : (long) someTime();
        }
        if (below(25) == 0) {
            return STRANGE[below(STRANGE.length)];
        }
        switch (kind) {
            case 'P': return below(30) == 0 ? 4 : below(2) == 0 ? run & 3 : below(4);
            case 'R': return below(30) == 0 ? 4 : below(4);
            case 'C': return below(model.count(0) + 2) - below(2);
            case 'W': return below(18) - 1;
            case 'T': return someTime();
            case 'K': return below(4) == 0 ? -1 : below(2) == 0 ? below(3) : below(9);
            case 'M': return below(4000) - 2000;
            case 'O': return below(8) == 0 ? below(5) - 1 : below(2);
            case 'Y': return 1 + below(402);
            case 'S': return someSet();
            case 'G': return below(3) == 0 ? 60 + below(400) : 64 << below(6);
            case 'D': return below(2) == 0 ? below(4) : below(2000);
            case 'I': return below(15) == 0 ? 2 : below(2);
            case 'N': return below(50);
            default: return draw * 31;
        }
    }

    /** Often the same one, so that what was kept of it is asked for. */
    private int someSet() {
        if (below(3) == 0) {
            return 1 + run % 7;
        }
        int set = 1 + below((1 << model.count(0)) + 1);
        return Integer.bitCount(set) > 4 && below(3) > 0 ? set & 7 : set;
    }

    /** Mostly a time that something happens at. */
    private int someTime() {
        int near = below(6) == 0 ? below(3) - 1 : 0;
        switch (below(5)) {
            case 0: return Math.max(0, model.bell(below(4), below(4))) + near;
            case 1: return (1 + below(1 << below(9))) * 64 + near;
            case 2: return below(model.count(0) + 1) < model.count(0) ? Math.max(0, model.candle(0, 1)) * 256 + near : below(30000);
            case 3: return Math.max(0, model.time(1 + below(7), true, below(12))) + near;
            default: return Math.max(0, model.alongs(1 + below(3), below(12))) + near;
        }
    }

    // ---- texts

    private String someCellar() {
        int candles = run % 10 == 9 ? below(9) : below(9) == 0 ? 0 : 1 + below(5);
        int longest = 1 + below(3) * below(30);
        StringBuilder text = new StringBuilder();
        for (int c = 0; c < candles; c++) {
            text.append(below(5) == 0 ? "\ncandle" : "candle");
            for (int k = 1 + below(1 + below(6)); k > 0; k--) {
                text.append(' ').append(1 + below(longest));
            }
            text.append(below(2) == 0 ? " wax " + (1 + below(999)) : "").append(below(2) == 0 ? " draught " + below(51) : "").append(';');
        }
        return text.toString();
    }

    private String somePlan() {
        StringBuilder text = new StringBuilder();
        int rules = below(7);
        if (below(3) == 0) {
            text.append("first join ").append(below(5)).append(' ').append(below(5)).append(" and join ").append(below(5)).append(' ');
            text.append(below(5)).append(" and join ").append(below(5)).append(' ').append(below(5)).append(';');
        }
        for (int i = 0; i < rules; i++) {
            text.append(i == 0 || below(4) == 0 ? "first " : "ends " + below(5) + " ");
            for (int k = below(5); k > 0; k--) {
                text.append(someAct()).append(" and ");
            }
            text.append(someAct()).append(';');
        }
        return text.toString();
    }

    private String someAct() {
        String[] acts = {"light ", "light ", "both ", "both ", "out ", "join " + below(5) + " ", "bell"};
        String act = acts[below(acts.length)];
        return act.equals("bell") ? act : act + (below(20) == 0 ? below(9) : below(5));
    }

    private String spoilt(String text) {
        List<String> bits = new ArrayList<>(List.of(";", " ", "\n", "\r", "0", "5", "77", "candle", " and bell", "first", "" + (char) below(256)));
        if (below(3) > 0) {
            return text;
        }
        int at = below(text.length() + 1);
        int to = Math.min(text.length(), at + below(3));
        return text.substring(0, at) + bits.get(below(bits.size())) + text.substring(to);
    }
}
