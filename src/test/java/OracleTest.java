import java.util.ArrayList;
import java.util.Arrays;
import java.util.List;
import java.util.TreeSet;

/** Runs and ways of many cellars and plans against slow models that are written another way. */
public final class OracleTest {
    private static final Due due = new Due("OracleTest");
    private static int draw = 20261118;

    public static void main(String[] args) {
        for (int i = 0; i < 400; i++) {
            compareRuns();
        }
        for (int i = 0; i < 60; i++) {
            compareWays(1 + i % 3);
        }
        compareWays(4);
        compareWays(4);
        for (int i = 0; i < 12; i++) {
            compareLeast();
        }
        due.close();
    }

    private static int below(int n) {
        draw = draw * 1664525 + 1013904223;
        return (draw >>> 8) % n;
    }

    // ---- runs

    private static List<String[]> someRules(int candles) {
        List<String[]> rules = new ArrayList<>();
        int n = 1 + below(6);
        int acts = 0;
        for (int i = 0; i < n; i++) {
            String[] rule = new String[1 + 1 + below(4)];
            rule[0] = i == 0 || below(4) == 0 ? "first" : "ends " + below(candles + 1) % 8;
            for (int j = 1; j < rule.length; j++) {
                rule[j] = someAct(candles);
                acts++;
            }
            rules.add(rule);
        }
        return rules;
    }

    private static String someAct(int candles) {
        int c = below(candles + 1) % 8;
        switch (below(8)) {
            case 0: case 1: case 2: return "light " + c;
            case 3: return "both " + c;
            case 4: return "out " + c;
            case 5: return "join " + c + " " + below(candles);
            default: return "bell";
        }
    }

    private static String text(List<String[]> rules) {
        StringBuilder text = new StringBuilder();
        for (String[] rule : rules) {
            text.append(rule[0]).append(' ');
            text.append(String.join(" and ", Arrays.copyOfRange(rule, 1, rule.length))).append(';');
        }
        return text.toString();
    }

    private static void compareRuns() {
        int candles = 1 + below(6);
        StringBuilder cellar = new StringBuilder();
        long[] sparks = new long[candles];
        int[] wax = new int[candles];
        int[] draught = new int[candles];
        for (int c = 0; c < candles; c++) {
            int minutes = 1 + below(c % 2 == 0 ? 60 : 3);
            wax[c] = 1 + below(999);
            draught[c] = below(2) * below(51);
            sparks[c] = minutes * 256L;
            cellar.append("candle ").append(minutes).append(" wax ").append(wax[c]);
            cellar.append(draught[c] > 0 ? " draught " + draught[c] + ";" : ";");
        }
        List<String[]> rules = someRules(candles);
        String name = cellar + " " + text(rules) + " ";
        UnevenWax x = Due.of(cellar.toString(), text(rules));
        SlowRun run = new SlowRun(sparks, rules, -1, 1 << 30);
        compareSums(name, x, run, wax);
        compareActs(name, x, run, sparks, rules);
        compareByTime(name, x, run, sparks, rules);
        compareChanged(name, x, sparks, draught, rules);
    }

    private static void compareSums(String name, UnevenWax x, SlowRun run, int[] wax) {
        long burnt = 0;
        for (int c = 0; c < wax.length; c++) {
            long own = run.first[c] - run.ownLeft(c);
            burnt += wax[c] * own / run.first[c];
            due.is(name + "days of " + c, x.days(0, 17, c), own > 0 ? 17 : 0);
            due.is(name + "ends " + c, x.ends(0, c), run.endAt[c] < 0 ? -1 : run.endAt[c] >> 16);
        }
        due.is(name + "bells", x.run(0, 0), run.bells.size());
        due.is(name + "over", x.run(0, 1), run.now >> 16);
        due.is(name + "vain", x.run(0, 2), run.vain.size());
        due.is(name + "lit", x.run(0, 3), run.lit);
        due.is(name + "wax", x.run(0, 4), burnt);
        due.is(name + "wax of days", x.days(0, 3, -1), 3 * burnt);
        for (int k = -1; k <= run.bells.size(); k++) {
            due.is(name + "bell " + k, x.bell(0, k), run.bell(k));
        }
    }

    private static void compareActs(String name, UnevenWax x, SlowRun run, long[] sparks, List<String[]> rules) {
        int k = 0;
        for (int act : run.vain) {
            due.is(name + "vain " + k, x.vain(0, k), act);
            k++;
        }
        due.is(name + "vain " + k, x.vain(0, k), -1);
        int idle = 0;
        int acts = 0;
        for (int i = 0; i < rules.size(); i++) {
            idle |= run.done.contains(i) ? 0 : 1 << i;
            acts += rules.get(i).length - 1;
        }
        due.is(name + "idle", x.idle(0), idle);
        k = 0;
        for (int act = 0; act < acts; act++) {
            if (new SlowRun(sparks, rules, act, 1 << 30).bells.equals(run.bells)) {
                due.is(name + "spare " + k, x.spare(0, k), act);
                k++;
            }
        }
        due.is(name + "spare " + k, x.spare(0, k), -1);
    }

    private static void compareByTime(String name, UnevenWax x, SlowRun run, long[] sparks, List<String[]> rules) {
        int over = (int) (run.now >> 16);
        for (int i = 0; i < 6; i++) {
            int time = i == 0 ? 0 : i == 1 ? over : i == 2 && run.bells.size() > 0 ? (int) run.bell(0) : below(over + 100);
            SlowRun part = new SlowRun(sparks, rules, -1, time);
            for (int c = 0; c < sparks.length; c++) {
                due.is(name + "rest " + c + " at " + time, x.rest(0, c, time), part.left(c) >> 16);
                due.is(name + "flames " + c + " at " + time, x.flames(0, c, time), part.flames[c]);
            }
        }
    }

    private static void compareChanged(String name, UnevenWax x, long[] sparks, int[] draught, List<String[]> rules) {
        int c = below(sparks.length);
        int more = below(5000) - 200;
        long[] other = sparks.clone();
        other[c] += more;
        if (other[c] > 0) {
            SlowRun run = new SlowRun(other, rules, -1, 1 << 30);
            for (int k = 0; k <= run.bells.size(); k++) {
                due.is(name + "would " + k, x.would(0, k, c, more), run.bell(k));
            }
        }
        int seed = below(1 << 20) - 1000;
        int drawn = seed;
        for (int i = 0; i < sparks.length; i++) {
            drawn = drawn * 1103515245 + 12345;
            other[i] = sparks[i] * (100 + (drawn >>> 16) % (2 * draught[i] + 1) - draught[i]) / 100;
        }
        SlowRun night = new SlowRun(other, rules, -1, 1 << 30);
        for (int k = 0; k <= night.bells.size(); k++) {
            due.is(name + "night " + k, x.night(0, seed, k), night.bell(k));
        }
        compareOff(name, x, sparks, draught, rules);
    }

    private static void compareOff(String name, UnevenWax x, long[] sparks, int[] draught, List<String[]> rules) {
        int all = 1;
        for (int c = 0; c < sparks.length; c++) {
            all *= 3;
        }
        long[] low = new long[41];
        long[] high = new long[41];
        Arrays.fill(low, Long.MAX_VALUE);
        Arrays.fill(high, -1);
        for (int i = 0; i < all; i++) {
            long[] other = new long[sparks.length];
            int code = i;
            for (int c = 0; c < sparks.length; c++) {
                other[c] = sparks[c] * (100 + draught[c] * (code % 3 - 1)) / 100;
                code /= 3;
            }
            SlowRun run = new SlowRun(other, rules, -1, 1 << 30);
            for (int k = 0; k < run.bells.size(); k++) {
                low[k] = Math.min(low[k], run.bell(k));
                high[k] = Math.max(high[k], run.bell(k));
            }
        }
        for (int k = 0; k == 0 || high[k - 1] >= 0; k++) {
            due.is(name + "off least " + k, x.off(0, k, 0), high[k] < 0 ? -1 : low[k]);
            due.is(name + "off greatest " + k, x.off(0, k, 1), high[k]);
        }
    }

    // ---- ways

    private static void compareWays(int size) {
        int candles = Math.min(8, size + below(3));
        int[] rests = new int[candles];
        StringBuilder cellar = new StringBuilder();
        for (int c = 0; c < candles; c++) {
            int minutes = 1 + below(below(2) == 0 ? 5 : 60);
            rests[c] = minutes * 256;
            cellar.append("candle ").append(minutes).append(';');
        }
        int set = 0;
        while (Integer.bitCount(set) != size) {
            set = below(1 << candles);
        }
        int[] chosen = new int[size];
        int at = 0;
        int all = 0;
        for (int c = 0; c < candles; c++) {
            if ((set >> c & 1) != 0) {
                chosen[at] = rests[c];
                all += rests[c];
                at++;
            }
        }
        for (int i = 0; i < 2; i++) {
            List<SlowWay> ways = new ArrayList<>();
            SlowWay.allWays(new SlowWay(), chosen, new int[size], i == 1, ways);
            UnevenWax x = Due.of(cellar.toString());
            String name = cellar + " set " + set + " " + (i == 1) + " ";
            compareTold(name, x, set, i == 1, ways, all);
            compareTogether(name, x, set, i == 1, ways);
        }
    }

    private static void compareTold(String name, UnevenWax x, int set, boolean out, List<SlowWay> ways, int all) {
        TreeSet<Integer> told = new TreeSet<>();
        TreeSet<Integer> between = new TreeSet<>();
        for (SlowWay way : ways) {
            told.addAll(way.moments);
            between.addAll(way.moments);
            for (int i = 0; i < way.moments.size(); i++) {
                for (int j = 0; j < i; j++) {
                    between.add(way.moments.get(i) - way.moments.get(j));
                }
            }
        }
        List<Integer> times = new ArrayList<>(told);
        for (int i = 0; i < 6; i++) {
            compareTime(name, x, set, out, ways, times.get(below(times.size())));
        }
        due.is(name + "times", x.time(set, out, -1), times.size());
        for (int k = 0; k < times.size(); k++) {
            due.is(name + "time " + k, x.time(set, out, k), times.get(k));
        }
        for (int i = 0; i < 100; i++) {
            int time = 1 + below(all + 300);
            time = i % 3 == 0 ? time : i % 3 == 1 ? time / 16 * 16 + 16 : time / 256 * 256 + 256;
            due.is(name + "can " + time, x.can(set, out, time), told.contains(time) ? 1 : 0);
            if (i < 20) {
                due.is(name + "between " + time, x.between(set, out, time), between.contains(time) ? 1 : 0);
            }
            Integer low = told.floor(time);
            Integer high = told.ceiling(time);
            int near = low == null ? high : high == null || time - low <= high - time ? low : high;
            due.is(name + "nearest " + time, x.nearest(set, out, time), near);
        }
        List<Integer> gaps = new ArrayList<>(between);
        for (int i = 0; i < 10; i++) {
            due.is(name + "between", x.between(set, out, gaps.get(below(gaps.size()))), 1);
        }
        compareLacks(name, x, set, out, told, all);
    }

    private static void compareLacks(String name, UnevenWax x, int set, boolean out, TreeSet<Integer> told, int all) {
        int step = 64 << below(5);
        int k = 0;
        for (int time = step; time <= all; time += step) {
            if (!told.contains(time)) {
                if (k < 40) {
                    due.is(name + "lack " + k + " of " + step, x.lacks(set, out, step, k), time);
                }
                k++;
            }
        }
        due.is(name + "lacks of " + step, x.lacks(set, out, step, -1), k);
        due.is(name + "no more lacks of " + step, x.lacks(set, out, step, k), -1);
    }

    private static void compareTime(String name, UnevenWax x, int set, boolean out, List<SlowWay> ways, int time) {
        int lit = Integer.MAX_VALUE;
        int burnt = Integer.MAX_VALUE;
        String first = null;
        for (SlowWay way : ways) {
            int at = way.moments.indexOf(time);
            if (at >= 0) {
                lit = Math.min(lit, way.lit.get(at));
                burnt = Math.min(burnt, way.burnt.get(at));
                String given = String.join(" ", way.given.subList(0, at + 1));
                first = first == null || given.compareTo(first) < 0 ? given : first;
            }
        }
        due.is(name + "fewest " + time, x.fewest(set, out, time), lit);
        due.is(name + "burnt " + time, x.burnt(set, out, time), burnt);
        String[] given = first == null ? new String[0] : first.split(" ");
        due.is(name + "given " + time, x.given(set, out, time, -1), given.length);
        for (int k = 0; k < given.length; k++) {
            due.is(name + "given " + time + " " + k, x.given(set, out, time, k), Integer.parseInt(given[k]));
        }
        due.is(name + "given no more", x.given(set, out, time, given.length), -1);
    }

    private static void compareTogether(String name, UnevenWax x, int set, boolean out, List<SlowWay> ways) {
        for (int i = 0; i < 12; i++) {
            SlowWay one = ways.get(below(ways.size()));
            SlowWay other = ways.get(below(ways.size()));
            long[] times = new long[1 + below(3)];
            for (int j = 0; j < times.length; j++) {
                SlowWay from = i % 2 == 0 || below(2) == 0 ? one : other;
                times[j] = from.moments.get(below(from.moments.size()));
            }
            boolean so = false;
            for (SlowWay way : ways) {
                boolean all = true;
                for (long time : times) {
                    all &= way.moments.contains((int) time);
                }
                so |= all;
            }
            Due.row(x, 0, 2, times);
            due.is(name + "together " + Arrays.toString(times), x.together(set, out, 0), so ? 1 : 0);
        }
    }

    // ---- the least sets: every set is asked by itself

    private static void compareLeast() {
        int candles = 2 + below(5);
        StringBuilder cellar = new StringBuilder();
        for (int c = 0; c < candles; c++) {
            cellar.append("candle ").append(1 + below(20)).append(';');
        }
        UnevenWax x = Due.of(cellar.toString());
        for (int i = 0; i < 12; i++) {
            boolean out = below(2) == 0;
            int set = 0;
            while (set == 0 || Integer.bitCount(set) > 4) {
                set = below(1 << candles);
            }
            int time = x.time(set, out, below(x.time(set, out, -1)));
            int other = x.time(set, out, below(x.time(set, out, -1)));
            Due.row(x, 0, 2, time, other);
            int least = -1;
            int leastFor = -1;
            for (int size = 4; size >= 1; size--) {
                for (int s = (1 << candles) - 1; s > 0; s--) {
                    if (Integer.bitCount(s) == size) {
                        least = x.can(s, out, time) == 1 ? s : least;
                        leastFor = x.together(s, out, 0) == 1 ? s : leastFor;
                    }
                }
            }
            due.is(cellar + " least " + time, x.least(time, out, 1), least);
            due.is(cellar + " how many " + time, x.least(time, out, 0), Integer.bitCount(least));
            due.is(cellar + " leastFor " + time + " " + other, x.leastFor(0, out), leastFor);
        }
    }
}
