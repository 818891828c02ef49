import java.util.ArrayList;
import java.util.List;
import java.util.function.ToLongFunction;

/** Calls that only answer are no change of state: what one answers does not hang on which were made before it. */
final class EdgeOrder {
    private static final int[] SETS = {1, 4, 6, 7, 11, 15};
    private static final int[] TIMES = {128, 896, 1280, 1, 448, 2560};

    private final Edge edge;
    private final List<String> names = new ArrayList<>();
    private final List<ToLongFunction<UnevenWax>> calls = new ArrayList<>();
    private int draw = 48;

    EdgeOrder(Edge edge) {
        this.edge = edge;
    }

    void all() {
        edge.of("Nothing is promised beyond the answers and state changes described above");
        waysOfSets();
        runs();
        rows();
        long[] alone = new long[calls.size()];
        for (int i = 0; i < alone.length; i++) {
            alone[i] = calls.get(i).applyAsLong(filled());
        }
        for (int turn = 0; turn < 12; turn++) {
            UnevenWax x = filled();
            for (int i = 0; i < 450; i++) {
                draw = draw * 1664525 + 1013904223;
                int which = (draw >>> 8) % calls.size();
                edge.is(names.get(which) + " behind others", calls.get(which).applyAsLong(x), alone[which]);
            }
        }
    }

    private static UnevenWax filled() {
        UnevenWax x = Due.of("candle 1 draught 10;candle 4 2 wax 7;candle 3 draught 5;candle 2 2;",
            "first both 0 and light 1 and light 2;ends 0 bell and join 3 2 and out 2 and join 3 2;ends 1 bell and both 3;ends 3 bell;",
            "first light 2 and bell;ends 2 bell and both 1;ends 1 bell;", "first both 3 and out 0;ends 3 bell;");
        Due.row(x, 0, 2, 128, 256);
        Due.row(x, 1, 2, 256, 896, 1280);
        Due.row(x, 2, 3, 0, 768);
        Due.row(x, 3, 2, 128);
        return x;
    }

    private void add(String name, ToLongFunction<UnevenWax> call) {
        names.add(name);
        calls.add(call);
    }

    private void waysOfSets() {
        for (int i = 0; i < SETS.length; i++) {
            int set = SETS[i];
            int time = TIMES[i];
            boolean out = i % 2 == 0;
            add("can " + set, x -> x.can(set, out, time));
            add("time " + set, x -> x.time(set, !out, 3));
            add("times " + set, x -> x.time(set, out, -1));
            add("between " + set, x -> x.between(set, out, time));
            add("between " + set + " at 320", x -> x.between(set, !out, 320));
            add("fewest " + set, x -> x.fewest(set, out, time));
            add("burnt " + set, x -> x.burnt(set, !out, time));
            add("given " + set, x -> x.given(set, out, time, 0));
            add("givens " + set, x -> x.given(set, !out, time, -1));
            add("lacks " + set, x -> x.lacks(set, out, 64, 2));
            add("together " + set, x -> x.together(set, out, 1));
            add("together " + set + " by row 0", x -> x.together(set, !out, 0));
            add("together " + set + " by row 3", x -> x.together(set, out, 3));
            add("nearest " + set, x -> x.nearest(set, out, time));
            add("least " + time, x -> x.least(time, out, 1));
        }
        int[] few = {1, 2, 3, 6, 9, 12};
        for (int set : few) {
            add("along " + set, x -> x.along(set, 512));
            add("alongs " + set, x -> x.alongs(set, -1));
        }
        add("between 3 at 64", x -> x.between(3, true, 64));
        add("between 3 at 192", x -> x.between(3, false, 192));
        add("leastFor 0", x -> x.leastFor(0, true));
        add("leastFor 1", x -> x.leastFor(1, false));
        add("leastFor 3", x -> x.leastFor(3, false));
    }

    private void runs() {
        for (int i = 0; i < 4; i++) {
            int p = i;
            add("bells " + p, x -> x.run(p, 0));
            add("vain " + p, x -> x.run(p, 2));
            add("wax " + p, x -> x.run(p, 4));
            add("bell " + p, x -> x.bell(p, 1));
            add("ends " + p, x -> x.ends(p, 3));
            add("rest " + p, x -> x.rest(p, 2, 300));
            add("flames " + p, x -> x.flames(p, 3, 129));
            add("idle " + p, x -> x.idle(p));
            add("vain act " + p, x -> x.vain(p, 0));
            add("spare " + p, x -> x.spare(p, 0));
            add("would " + p, x -> x.would(p, 1, 2, 77));
            add("off " + p, x -> x.off(p, 1, 1));
            add("least off " + p, x -> x.off(p, 0, 0));
            add("night " + p, x -> x.night(p, 9, 0));
            add("chime " + p, x -> x.chime(p, 1));
            add("days " + p, x -> x.days(p, 3, 2));
        }
    }

    private void rows() {
        for (int i = 0; i < 4; i++) {
            int row = i;
            add("serves " + row, x -> x.serves(1, row, 200));
            add("fittest " + row, x -> x.fittest(row, 100));
            add("log " + row, x -> x.log(row));
            add("nearly " + row, x -> x.nearly(row, 500));
            add("missed " + row, x -> x.missed(1, row, -1));
            add("stolen " + row, x -> x.stolen(0, row));
        }
        add("length", x -> x.length(1, 1000));
        add("meet", x -> x.meet(1));
        add("halves", x -> x.halves(3));
        add("piece", x -> x.piece(1, 1024, true));
        add("fault", x -> x.fault(1));
        add("count", x -> x.count(7));
    }
}
