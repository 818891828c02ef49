import java.math.BigInteger;
import java.util.ArrayList;
import java.util.Arrays;
import java.util.HashMap;
import java.util.List;
import java.util.Map;
import java.util.TreeSet;
import java.util.regex.Matcher;
import java.util.regex.Pattern;

/** The whole face, call by call as the document tells it, without a thought of room or speed. */
final class Model {
    private static final Pattern PART = Pattern.compile("[a-z]+|[0-9]+");
    private static final long NEVER = 1 << 30;

    /** A candle by the minutes of its pieces. */
    private record Candle(int[] minutes, int wax, int draught) {
        int sparks() {
            return Arrays.stream(minutes).sum() * 256;
        }

        /** A thousand times the sparks that so many thousandths of a piece burn, from its beginning. */
        long thousandfold(int thousandths) {
            long sum = 0;
            for (int i = 0; i < minutes.length; i++) {
                sum += 256L * minutes[i] * Math.max(0, Math.min(1000, thousandths - 1000 * i));
            }
            return sum;
        }
    }

    private record Image(List<Candle> candles, List<List<String[]>> plans) {
    }

    private final StringBuilder tape = new StringBuilder();
    private List<Candle> candles = new ArrayList<>();
    private List<List<String[]>> plans = new ArrayList<>(List.of(List.of(), List.of(), List.of(), List.of()));
    private final long[][] rows = new long[4][];
    private final int[] bits = new int[4];
    private final Image[] images = new Image[2];
    private int fault;
    private int place = -1;
    // Slow answers are kept as long as the cellar stays.
    private final Map<String, List<SlowWay>> ways = new HashMap<>();
    private final Map<String, TreeSet<Integer>> told = new HashMap<>();
    private final Map<Integer, TreeSet<Integer>> alongs = new HashMap<>();

    // ---- texts

    int feed(int a, int b, int c, int d, int e) {
        if (tape.length() + 20 > 400) {
            return -5;
        }
        for (int four : new int[] {a, b, c, d, e}) {
            tape.append((char) (four >>> 24)).append((char) (four >>> 16 & 255)).append((char) (four >>> 8 & 255)).append((char) (four & 255));
        }
        return tape.length();
    }

    int cellar(int n) {
        if (n < 0 || n > tape.length()) {
            return -3;
        }
        String text = takeText(n, true);
        if (fault != 0) {
            return -30 - fault;
        }
        candles = new ArrayList<>();
        for (List<String> line : lines(text)) {
            candles.add(candleOf(line));
        }
        forget();
        return candles.size();
    }

    int plan(int p, int n) {
        if (noPlan(p)) {
            return -2;
        }
        if (n < 0 || n > tape.length()) {
            return -3;
        }
        String text = takeText(n, false);
        if (fault != 0) {
            return -30 - fault;
        }
        List<String[]> rules = new ArrayList<>();
        for (List<String> line : lines(text)) {
            rules.add(ruleOf(line));
        }
        plans.set(p, rules);
        return rules.size();
    }

    private String takeText(int n, boolean asCellar) {
        String text = tape.substring(0, n);
        tape.setLength(0);
        int[] first = SlowReader.firstFault(text, asCellar);
        fault = first[0];
        place = first[1];
        return text;
    }

    /** The words and numbers of a text without a fault, line by line; numbers without zeros ahead. */
    private static List<List<String>> lines(String text) {
        List<List<String>> lines = new ArrayList<>();
        for (String line : text.split(";")) {
            List<String> parts = new ArrayList<>();
            for (Matcher part = PART.matcher(line); part.find();) {
                parts.add(part.group().replaceAll("^0+(?=.)", ""));
            }
            if (!parts.isEmpty()) {
                lines.add(parts);
            }
        }
        return lines;
    }

    private static Candle candleOf(List<String> line) {
        int wax = line.indexOf("wax");
        int draught = line.indexOf("draught");
        int end = wax > 0 ? wax : draught > 0 ? draught : line.size();
        int[] minutes = line.subList(1, end).stream().mapToInt(Integer::parseInt).toArray();
        return new Candle(minutes, wax > 0 ? Integer.parseInt(line.get(wax + 1)) : 60,
            draught > 0 ? Integer.parseInt(line.get(draught + 1)) : 0);
    }

    private static String[] ruleOf(List<String> line) {
        String acts = String.join(" ", line.subList(line.get(0).equals("ends") ? 2 : 1, line.size()));
        String when = line.get(0).equals("ends") ? "ends " + line.get(1) : "first";
        return (when + " and " + acts).split(" and ");
    }

    private void forget() {
        ways.clear();
        told.clear();
        alongs.clear();
    }

    int fault(int what) {
        return what == 0 ? fault : what == 1 ? place : -1;
    }

    int candle(int c, int what) {
        if (noCandle(c)) {
            return -2;
        }
        Candle candle = candles.get(c);
        switch (what) {
            case 0: return candle.minutes().length;
            case 1: return candle.sparks() / 256;
            case 2: return candle.wax();
            case 3: return candle.draught();
            default: return what >= 10 && what < 10L + candle.minutes().length ? candle.minutes()[what - 10] : -2;
        }
    }

    private boolean noCandle(int c) {
        return c < 0 || c >= candles.size();
    }

    private static boolean noPlan(int p) {
        return p < 0 || p > 3;
    }

    private static boolean noRow(int row) {
        return row < 0 || row > 3;
    }

    // ---- along a candle: the thousandths are tried one by one

    int length(int c, int sparks) {
        if (noCandle(c)) {
            return -2;
        }
        Candle candle = candles.get(c);
        if (sparks < 0 || sparks > candle.sparks()) {
            return -3;
        }
        int left = 1000;
        while (candle.thousandfold((1000 - left) * candle.minutes().length) < 1000L * sparks) {
            left--;
        }
        return left;
    }

    int meet(int c) {
        if (noCandle(c)) {
            return -2;
        }
        Candle candle = candles.get(c);
        int at = 0;
        while (2 * candle.thousandfold((at + 1) * candle.minutes().length) <= 1000L * candle.sparks()) {
            at++;
        }
        return at;
    }

    int halves(int c) {
        return noCandle(c) ? -2 : (int) (candles.get(c).thousandfold(500 * candles.get(c).minutes().length) / 1000);
    }

    int piece(int c, int sparks, boolean fromEnd) {
        if (noCandle(c)) {
            return -2;
        }
        Candle candle = candles.get(c);
        if (sparks < 0 || sparks > candle.sparks()) {
            return -3;
        }
        // From the end, the piece that burns next is the last one that has anything left.
        int left = candle.sparks() - sparks;
        for (int i = 0; i < candle.minutes().length; i++) {
            long begins = candle.thousandfold(1000 * i) / 1000;
            long ends = candle.thousandfold(1000 * i + 1000) / 1000;
            if (fromEnd ? left > begins && left <= ends : sparks >= begins && sparks < ends) {
                return i;
            }
        }
        return -1;
    }

    // ---- runs

    private long[] sparks() {
        return candles.stream().mapToLong(Candle::sparks).toArray();
    }

    private SlowRun runOf(int p) {
        return new SlowRun(sparks(), plans.get(p), -1, NEVER);
    }

    int run(int p, int what) {
        if (noPlan(p)) {
            return -2;
        }
        SlowRun run = runOf(p);
        switch (what) {
            case 0: return run.bells.size();
            case 1: return (int) (run.now >> 16);
            case 2: return run.vain.size();
            case 3: return run.lit;
            case 4: return wax(run);
            default: return -2;
        }
    }

    private int wax(SlowRun run) {
        long sum = 0;
        for (int c = 0; c < candles.size(); c++) {
            sum += candles.get(c).wax() * (run.first[c] - run.ownLeft(c)) / run.first[c];
        }
        return (int) sum;
    }

    int bell(int p, int k) {
        return noPlan(p) ? -2 : (int) runOf(p).bell(k);
    }

    int ends(int p, int c) {
        if (noPlan(p) || noCandle(c)) {
            return -2;
        }
        long at = runOf(p).endAt[c];
        return at < 0 ? -1 : (int) (at >> 16);
    }

    int rest(int p, int c, int time) {
        if (noPlan(p) || noCandle(c)) {
            return -2;
        }
        return time < 0 ? -3 : (int) (new SlowRun(sparks(), plans.get(p), -1, time).left(c) >> 16);
    }

    int flames(int p, int c, int time) {
        if (noPlan(p) || noCandle(c)) {
            return -2;
        }
        return time < 0 ? -3 : new SlowRun(sparks(), plans.get(p), -1, time).flames[c];
    }

    int idle(int p) {
        if (noPlan(p)) {
            return -2;
        }
        SlowRun run = runOf(p);
        int idle = 0;
        for (int i = 0; i < plans.get(p).size(); i++) {
            idle += run.done.contains(i) ? 0 : 1 << i;
        }
        return idle;
    }

    int vain(int p, int k) {
        return noPlan(p) ? -2 : nth(new ArrayList<>(runOf(p).vain), k);
    }

    private static int nth(List<Integer> list, int k) {
        return k >= 0 && k < list.size() ? list.get(k) : -1;
    }

    private static int nthOrSize(List<Integer> list, int k) {
        return k == -1 ? list.size() : nth(list, k);
    }

    int spare(int p, int k) {
        if (noPlan(p)) {
            return -2;
        }
        List<Long> bells = runOf(p).bells;
        int acts = plans.get(p).stream().mapToInt(rule -> rule.length - 1).sum();
        List<Integer> spare = new ArrayList<>();
        for (int act = 0; act < acts; act++) {
            if (new SlowRun(sparks(), plans.get(p), act, NEVER).bells.equals(bells)) {
                spare.add(act);
            }
        }
        return nth(spare, k);
    }

    int would(int p, int k, int c, int more) {
        if (noPlan(p) || noCandle(c)) {
            return -2;
        }
        long[] rests = sparks();
        rests[c] += more;
        if (rests[c] < 1 || rests[c] > 200000) {
            return -3;
        }
        return (int) new SlowRun(rests, plans.get(p), -1, NEVER).bell(k);
    }

    int off(int p, int k, int what) {
        if (noPlan(p) || what < 0 || what > 1) {
            return -2;
        }
        return k < 0 ? -3 : off(new long[0], p, k, what);
    }

    /** The candles behind those whose rests are chosen already are gone through one after the other. */
    private int off(long[] chosen, int p, int k, int what) {
        if (chosen.length == candles.size()) {
            return (int) new SlowRun(chosen, plans.get(p), -1, NEVER).bell(k);
        }
        Candle candle = candles.get(chosen.length);
        int best = -1;
        for (int hundredth : new TreeSet<>(List.of(100, 100 - candle.draught(), 100 + candle.draught()))) {
            long[] more = Arrays.copyOf(chosen, chosen.length + 1);
            more[chosen.length] = (long) candle.sparks() * hundredth / 100;
            int at = off(more, p, k, what);
            best = best == -1 ? at : at == -1 ? best : what == 0 ? Math.min(best, at) : Math.max(best, at);
        }
        return best;
    }

    int night(int p, int seed, int k) {
        if (noPlan(p)) {
            return -2;
        }
        long[] rests = sparks();
        int x = seed;
        for (int c = 0; c < rests.length; c++) {
            x = 1103515245 * x + 12345;
            int draught = candles.get(c).draught();
            rests[c] = rests[c] * (100 + (x >>> 16) % (2 * draught + 1) - draught) / 100;
        }
        return (int) new SlowRun(rests, plans.get(p), -1, NEVER).bell(k);
    }

    int chime(int p, int q) {
        if (noPlan(p) || noPlan(q)) {
            return -2;
        }
        List<Long> others = runOf(q).bells;
        return runOf(p).bells.stream().mapToInt(at -> (int) others.stream().filter(at::equals).count()).sum();
    }

    int days(int p, int days, int what) {
        if (noPlan(p) || what != -1 && noCandle(what)) {
            return -2;
        }
        if (days < 1 || days > 400) {
            return -3;
        }
        SlowRun run = runOf(p);
        return what == -1 ? days * wax(run) : run.ownLeft(what) < run.first[what] ? days : 0;
    }

    // ---- what can be told

    private boolean noSet(int set, int most) {
        return set < 1 || set >= 1 << candles.size() || Integer.bitCount(set) > most;
    }

    private List<SlowWay> waysOf(int set, boolean out) {
        return ways.computeIfAbsent(set + " " + out, key -> {
            int[] rests = new int[Integer.bitCount(set)];
            int at = 0;
            for (int c = 0; c < candles.size(); c++) {
                if ((set >> c & 1) != 0) {
                    rests[at] = candles.get(c).sparks();
                    at++;
                }
            }
            List<SlowWay> all = new ArrayList<>();
            SlowWay.allWays(new SlowWay(), rests, new int[rests.length], out, all);
            return all;
        });
    }

    private TreeSet<Integer> told(int set, boolean out) {
        return told.computeIfAbsent(set + " " + out, key -> {
            TreeSet<Integer> moments = new TreeSet<>();
            for (SlowWay way : waysOf(set, out)) {
                moments.addAll(way.moments);
            }
            return moments;
        });
    }

    int can(int set, boolean out, int time) {
        return noSet(set, 4) || time < 1 ? -3 : told(set, out).contains(time) ? 1 : 0;
    }

    int time(int set, boolean out, int k) {
        return noSet(set, 4) ? -3 : nthOrSize(new ArrayList<>(told(set, out)), k);
    }

    int between(int set, boolean out, int time) {
        if (noSet(set, 4) || time < 1) {
            return -3;
        }
        for (SlowWay way : waysOf(set, out)) {
            for (int moment : way.moments) {
                if (moment == time || way.moments.contains(moment - time)) {
                    return 1;
                }
            }
        }
        return 0;
    }

    /** All sets, those of fewer candles ahead, of like ones the least as bits. */
    private List<Integer> sets() {
        List<Integer> sets = new ArrayList<>();
        for (int set = 1; set < 1 << candles.size(); set++) {
            if (Integer.bitCount(set) <= 4) {
                sets.add(set);
            }
        }
        sets.sort((a, b) -> Integer.bitCount(a) != Integer.bitCount(b) ? Integer.bitCount(a) - Integer.bitCount(b) : a - b);
        return sets;
    }

    int least(int time, boolean out, int what) {
        if (what < 0 || what > 1) {
            return -2;
        }
        if (time < 1) {
            return -3;
        }
        for (int set : sets()) {
            if (told(set, out).contains(time)) {
                return what == 0 ? Integer.bitCount(set) : set;
            }
        }
        return -1;
    }

    int fewest(int set, boolean out, int time) {
        return leastTill(set, out, time, true);
    }

    int burnt(int set, boolean out, int time) {
        return leastTill(set, out, time, false);
    }

    private int leastTill(int set, boolean out, int time, boolean lit) {
        if (noSet(set, 4) || time < 1) {
            return -3;
        }
        int least = Integer.MAX_VALUE;
        for (SlowWay way : waysOf(set, out)) {
            int at = way.moments.indexOf(time);
            if (at >= 0) {
                least = Math.min(least, (lit ? way.lit : way.burnt).get(at));
            }
        }
        return least == Integer.MAX_VALUE ? -1 : least;
    }

    int given(int set, boolean out, int time, int k) {
        if (noSet(set, 4) || time < 1) {
            return -3;
        }
        String first = null;
        for (SlowWay way : waysOf(set, out)) {
            int at = way.moments.indexOf(time);
            if (at >= 0) {
                String given = String.join(" ", way.given.subList(0, at + 1));
                first = first == null || given.compareTo(first) < 0 ? given : first;
            }
        }
        return first == null ? -1 : nthOrSize(Arrays.stream(first.split(" ")).map(Integer::valueOf).toList(), k);
    }

    int lacks(int set, boolean out, int step, int k) {
        if (noSet(set, 4) || step < 64) {
            return -3;
        }
        int all = 0;
        for (int c = 0; c < candles.size(); c++) {
            all += (set >> c & 1) * candles.get(c).sparks();
        }
        List<Integer> lacks = new ArrayList<>();
        for (long time = step; time <= all; time += step) {
            if (!told(set, out).contains((int) time)) {
                lacks.add((int) time);
            }
        }
        return nthOrSize(lacks, k);
    }

    int together(int set, boolean out, int row) {
        int refused = refusedRow(row);
        if (refused != 0) {
            return refused;
        }
        return noSet(set, 4) ? -3 : areTogether(set, out, rows[row]) ? 1 : 0;
    }

    private boolean areTogether(int set, boolean out, long[] times) {
        for (SlowWay way : waysOf(set, out)) {
            if (Arrays.stream(times).allMatch(time -> time == (int) time && way.moments.contains((int) time))) {
                return true;
            }
        }
        return false;
    }

    private int refusedRow(int row) {
        return noRow(row) ? -2 : rows[row] == null ? -6 : 0;
    }

    int leastFor(int row, boolean out) {
        int refused = refusedRow(row);
        if (refused != 0) {
            return refused;
        }
        for (int set : sets()) {
            if (areTogether(set, out, rows[row])) {
                return set;
            }
        }
        return -1;
    }

    int nearest(int set, boolean out, int time) {
        if (noSet(set, 4) || time < 1) {
            return -3;
        }
        int nearest = -1;
        for (int moment : told(set, out)) {
            nearest = nearest < 0 || Math.abs(moment - time) < Math.abs(nearest - time) ? moment : nearest;
        }
        return nearest;
    }

    private TreeSet<Integer> alongsOf(int set) {
        return alongs.computeIfAbsent(set, key -> {
            List<int[]> chosen = new ArrayList<>();
            for (int c = 0; c < candles.size(); c++) {
                if ((set >> c & 1) != 0) {
                    chosen.add(candles.get(c).minutes());
                }
            }
            return SlowAlong.moments(chosen.toArray(new int[0][]));
        });
    }

    int along(int set, int time) {
        return noSet(set, 2) || time < 1 ? -3 : alongsOf(set).contains(time) ? 1 : 0;
    }

    int alongs(int set, int k) {
        return noSet(set, 2) ? -3 : nthOrSize(new ArrayList<>(alongsOf(set)), k);
    }

    // ---- offices, logs, thieves

    private static boolean isNear(long number, long at, int sparks) {
        return BigInteger.valueOf(number).subtract(BigInteger.valueOf(at)).abs().compareTo(BigInteger.valueOf(sparks)) <= 0;
    }

    int serves(int p, int row, int sparks) {
        int refused = noPlan(p) ? -2 : refusedRow(row);
        if (refused != 0 || sparks < 0) {
            return refused != 0 ? refused : -3;
        }
        SlowRun run = runOf(p);
        return (int) Arrays.stream(rows[row]).filter(office -> run.bells.stream().anyMatch(at -> isNear(office, at >> 16, sparks))).count();
    }

    int fittest(int row, int sparks) {
        int refused = refusedRow(row);
        if (refused != 0 || sparks < 0) {
            return refused != 0 ? refused : -3;
        }
        int fittest = 3;
        for (int p = 2; p >= 0; p--) {
            fittest = serves(p, row, sparks) >= serves(fittest, row, sparks) ? p : fittest;
        }
        return fittest;
    }

    int log(int row) {
        int refused = refusedRow(row);
        return refused != 0 ? refused : plansOf(rows[row], 0);
    }

    int nearly(int row, int sparks) {
        int refused = refusedRow(row);
        return refused != 0 ? refused : sparks < 0 ? -3 : plansOf(rows[row], sparks);
    }

    private int plansOf(long[] log, int sparks) {
        int plansOf = 0;
        for (int p = 0; p < 4; p++) {
            plansOf += heard(runOf(p), log, sparks) == null ? 0 : 1 << p;
        }
        return plansOf;
    }

    /** Each time of a log takes the first bell behind which all its later times find one; null if there is none. */
    private static List<Integer> heard(SlowRun run, long[] log, int sparks) {
        int bells = run.bells.size();
        boolean[][] can = new boolean[log.length + 1][bells + 1];
        Arrays.fill(can[log.length], true);
        for (int i = log.length - 1; i >= 0; i--) {
            for (int k = bells - 1; k >= 0; k--) {
                can[i][k] = can[i][k + 1] || isNear(log[i], run.bell(k), sparks) && can[i + 1][k + 1];
            }
        }
        if (!can[0][0]) {
            return null;
        }
        List<Integer> heard = new ArrayList<>();
        int k = 0;
        for (int i = 0; i < log.length; i++) {
            while (!isNear(log[i], run.bell(k), sparks) || !can[i + 1][k + 1]) {
                k++;
            }
            heard.add(k);
            k++;
        }
        return heard;
    }

    int missed(int p, int row, int k) {
        int refused = noPlan(p) ? -2 : refusedRow(row);
        if (refused != 0) {
            return refused;
        }
        SlowRun run = runOf(p);
        List<Integer> heard = heard(run, rows[row], 0);
        if (heard == null) {
            return -1;
        }
        List<Integer> missed = new ArrayList<>();
        for (int bell = 0; bell < run.bells.size(); bell++) {
            if (!heard.contains(bell)) {
                missed.add(bell);
            }
        }
        return nthOrSize(missed, k);
    }

    int stolen(int p, int row) {
        int refused = noPlan(p) ? -2 : refusedRow(row);
        if (refused != 0) {
            return refused;
        }
        SlowRun run = runOf(p);
        int stolen = 0;
        for (int c = 0; c < candles.size() && c < rows[row].length; c++) {
            stolen += rows[row][c] < run.left(c) >> 16 ? 1 << c : 0;
        }
        return stolen;
    }

    // ---- rows of numbers, images

    int numbers(int row, int sort, int n) {
        if (noRow(row) || sort < 0 || sort > 3) {
            return -2;
        }
        if (n < 0 || n > 40) {
            return -3;
        }
        rows[row] = new long[n];
        bits[row] = 8 << sort;
        return 0;
    }

    long write(int row, int i, long v) {
        int refused = refusedRow(row);
        if (refused != 0) {
            return refused;
        }
        if (i < 0 || i >= rows[row].length) {
            return -7;
        }
        rows[row][i] = v << 64 - bits[row] >> 64 - bits[row];
        return rows[row][i];
    }

    int copy(int p, int row) {
        int refused = noPlan(p) ? -2 : refusedRow(row);
        if (refused != 0) {
            return refused;
        }
        SlowRun run = runOf(p);
        if (run.bells.size() > rows[row].length) {
            return -7;
        }
        for (int k = 0; k < run.bells.size(); k++) {
            write(row, k, run.bell(k));
        }
        return run.bells.size();
    }

    int image(int i) {
        if (i < 0 || i > 1) {
            return -2;
        }
        images[i] = new Image(candles, new ArrayList<>(plans));
        return 0;
    }

    int restore(int i) {
        if (i < 0 || i > 1) {
            return -2;
        }
        if (images[i] == null) {
            return -5;
        }
        candles = images[i].candles();
        plans = new ArrayList<>(images[i].plans());
        forget();
        return 0;
    }

    int count(int what) {
        switch (what) {
            case 0: case 6: return candles.size();
            case 1: case 2: case 3: case 4: return plans.get(what - 1).size();
            case 5: return tape.length();
            case 7: return candles.stream().mapToInt(Candle::wax).sum();
            default: return -1;
        }
    }
}
