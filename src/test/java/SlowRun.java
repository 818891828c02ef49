import java.util.ArrayList;
import java.util.List;
import java.util.TreeSet;

/** A slow run, in 65536ths of a spark: each candle is a list of owners and what is left of theirs, burnt one after the other. */
final class SlowRun {
    final long[] first;
    final List<List<long[]>> parts = new ArrayList<>();
    final int[] flames;
    final long[] endAt;
    final boolean[] gone;
    final List<Long> bells = new ArrayList<>();
    final TreeSet<Integer> vain = new TreeSet<>();
    final TreeSet<Integer> done = new TreeSet<>();
    final List<String[]> rules;
    final int without;
    int lit;
    long now;

    SlowRun(long[] sparks, List<String[]> rules, int without, long until) {
        this.rules = rules;
        this.without = without;
        first = new long[sparks.length];
        flames = new int[sparks.length];
        endAt = new long[sparks.length];
        gone = new boolean[sparks.length];
        for (int c = 0; c < sparks.length; c++) {
            first[c] = sparks[c] << 16;
            endAt[c] = -1;
            List<long[]> own = new ArrayList<>();
            own.add(new long[] {c, first[c]});
            parts.add(own);
        }
        obey("first");
        while (burnOn(until << 16)) {
            for (int c = 0; c < sparks.length; c++) {
                if (flames[c] > 0 && left(c) == 0) {
                    endAt[c] = now;
                }
            }
            for (int c = 0; c < sparks.length; c++) {
                if (endAt[c] == now && flames[c] > 0) {
                    flames[c] = 0;
                    obey("ends " + c);
                }
            }
        }
    }

    long left(int c) {
        long sum = 0;
        for (long[] part : parts.get(c)) {
            sum += part[1];
        }
        return sum;
    }

    private boolean burnOn(long until) {
        long step = Long.MAX_VALUE;
        for (int c = 0; c < first.length; c++) {
            if (flames[c] > 0) {
                if (left(c) % flames[c] != 0) {
                    throw new IllegalStateException("a time that isn't whole");
                }
                step = Math.min(step, left(c) / flames[c]);
            }
        }
        if (step == Long.MAX_VALUE) {
            return false;
        }
        boolean ends = now + step <= until;
        step = Math.min(step, until - now);
        for (int c = 0; c < first.length; c++) {
            long burns = step * flames[c];
            for (long[] part : parts.get(c)) {
                long share = Math.min(part[1], burns);
                part[1] -= share;
                burns -= share;
            }
        }
        now += step;
        return ends;
    }

    private void obey(String when) {
        int act = 0;
        for (int i = 0; i < rules.size(); i++) {
            String[] rule = rules.get(i);
            for (int j = 1; j < rule.length; j++) {
                if (rule[0].equals(when) && act != without && !does(rule[j].split(" "))) {
                    vain.add(act);
                }
                act++;
            }
            if (rule[0].equals(when)) {
                done.add(i);
            }
        }
    }

    private boolean does(String[] act) {
        if (act[0].equals("bell")) {
            bells.add(now);
            return true;
        }
        int c = Integer.parseInt(act[1]);
        if (!lives(c)) {
            return false;
        }
        int had = flames[c];
        switch (act[0]) {
            case "light": flames[c] = Math.min(2, had + 1); break;
            case "both": flames[c] = 2; break;
            case "out": flames[c] = 0; break;
            default: return joins(c, Integer.parseInt(act[2]));
        }
        lit += Math.max(0, flames[c] - had);
        return flames[c] != had;
    }

    private boolean lives(int c) {
        return c < first.length && !gone[c] && endAt[c] < 0;
    }

    private boolean joins(int c, int second) {
        if (c == second || !lives(second) || flames[c] + flames[second] > 0) {
            return false;
        }
        parts.get(c).addAll(parts.get(second));
        parts.set(second, new ArrayList<>());
        gone[second] = true;
        return true;
    }

    long ownLeft(int owner) {
        long sum = 0;
        for (List<long[]> candle : parts) {
            for (long[] part : candle) {
                sum += part[0] == owner ? part[1] : 0;
            }
        }
        return sum;
    }

    long bell(int k) {
        return k >= 0 && k < bells.size() ? bells.get(k) >> 16 : -1;
    }
}
