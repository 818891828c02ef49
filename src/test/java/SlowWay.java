import java.util.ArrayList;
import java.util.List;

/** A way of a set that is written down whole, moment by moment; all of them are made, then looked through. */
final class SlowWay {
    final List<Integer> moments = new ArrayList<>();
    final List<String> given = new ArrayList<>();
    final List<Integer> lit = new ArrayList<>();
    final List<Integer> burnt = new ArrayList<>();

    SlowWay() {
    }

    SlowWay(SlowWay other) {
        moments.addAll(other.moments);
        given.addAll(other.given);
        lit.addAll(other.lit);
        burnt.addAll(other.burnt);
    }

    int now() {
        return moments.isEmpty() ? 0 : moments.get(moments.size() - 1);
    }

    int last(List<Integer> of) {
        return of.isEmpty() ? 0 : of.get(of.size() - 1);
    }

    /** Goes on in every way from here, the digits counted from the highest down, so that no order is taken over. */
    static void allWays(SlowWay way, int[] rests, int[] flames, boolean out, List<SlowWay> to) {
        boolean any = false;
        int codes = (int) Math.pow(3, rests.length);
        for (int code = codes - 1; code > 0; code--) {
            int[] gives = new int[rests.length];
            int left = code;
            boolean may = true;
            int step = Integer.MAX_VALUE;
            int lit = 0;
            for (int c = 0; c < rests.length; c++) {
                gives[c] = left % 3;
                left /= 3;
                may &= rests[c] > 0 ? out || gives[c] >= flames[c] : gives[c] == 0;
                step = gives[c] > 0 ? Math.min(step, rests[c] / gives[c]) : step;
                lit += Math.max(0, gives[c] - flames[c]);
            }
            if (!may) {
                continue;
            }
            any = true;
            SlowWay next = new SlowWay(way);
            int[] then = rests.clone();
            int[] has = gives.clone();
            int burnt = 0;
            StringBuilder digits = new StringBuilder();
            for (int c = 0; c < rests.length; c++) {
                then[c] -= gives[c] * step;
                burnt += gives[c] * step;
                has[c] = then[c] == 0 ? 0 : gives[c];
                digits.append(gives[c]);
            }
            next.lit.add(way.last(way.lit) + lit);
            next.burnt.add(way.last(way.burnt) + burnt);
            next.moments.add(way.now() + step);
            next.given.add(digits.toString());
            allWays(next, then, has, out, to);
        }
        if (!any) {
            to.add(way);
        }
    }
}
