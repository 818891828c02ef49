import com.sun.management.ThreadMXBean;
import java.lang.management.ManagementFactory;

/** The room: what an object takes, and that calls take nothing more, whatever their arguments. */
public final class RoomTest {
    private static final Due due = new Due("RoomTest");
    private static final int[] STRANGE = {Integer.MIN_VALUE, -3, -2, -1, 0, 1, 2, 3, 4, 7, 15, 39, 40, 255, 256, 7680, 200000, Integer.MAX_VALUE};
    private static int draw = 7;
    private static long sum;

    public static void main(String[] args) {
        ThreadMXBean bean = (ThreadMXBean) ManagementFactory.getThreadMXBean();
        // The first object also loads the classes, which is no object's room.
        sum += new UnevenWax().count(0);
        long before = bean.getCurrentThreadAllocatedBytes();
        UnevenWax x = new UnevenWax();
        long made = bean.getCurrentThreadAllocatedBytes() - before;
        due.isTrue("an object takes " + made + " bytes", made < 40000);
        Due.cellar(x, "candle 9 8 draught 5;candle 20 3 1 draught 7;candle 5;candle 13 13;candle 2;");
        Due.plan(x, 0, "first light 0 and both 1;ends 0 bell and join 2 3 and light 2;ends 2 light 4 and bell;ends 1 bell;");
        Due.plan(x, 1, "first both 3 and bell;ends 3 bell;");
        x.image(0);
        x.image(1);
        before = bean.getCurrentThreadAllocatedBytes();
        for (int i = 0; i < 20000; i++) {
            anyCall(x);
        }
        long taken = bean.getCurrentThreadAllocatedBytes() - before;
        due.isTrue("20000 calls take " + taken + " bytes", taken < 100000);
        due.isTrue("some answers", sum != 0);
        due.close();
    }

    private static int any() {
        draw = draw * 1664525 + 1013904223;
        return STRANGE[(draw >>> 8) % STRANGE.length];
    }

    private static boolean flip() {
        return (any() & 1) == 0;
    }

    private static void anyCall(UnevenWax x) {
        draw = draw * 1664525 + 1013904223;
        int which = (draw >>> 8) % 48;
        sum += which < 24 ? firstCalls(x, which) : laterCalls(x, which);
    }

    private static long firstCalls(UnevenWax x, int which) {
        switch (which) {
            case 0: return x.feed(any(), any(), any(), any(), any());
            case 1: return x.cellar(any()) + x.restore(0);
            case 2: return x.plan(any(), any()) + x.restore(1);
            case 3: return x.fault(any());
            case 4: return x.candle(any(), any());
            case 5: return x.length(any(), any());
            case 6: return x.meet(any());
            case 7: return x.halves(any());
            case 8: return x.piece(any(), any(), flip());
            case 9: return x.run(any(), any());
            case 10: return x.bell(any(), any());
            case 11: return x.ends(any(), any());
            case 12: return x.rest(any(), any(), any());
            case 13: return x.flames(any(), any(), any());
            case 14: return x.idle(any());
            case 15: return x.vain(any(), any());
            case 16: return x.spare(any(), any());
            case 17: return x.would(any(), any(), any(), any());
            case 18: return x.off(any(), any(), any());
            case 19: return x.night(any(), any(), any());
            case 20: return x.chime(any(), any());
            case 21: return x.days(any(), any(), any());
            case 22: return x.can(any(), flip(), any());
            default: return x.time(any(), flip(), any());
        }
    }

    private static long laterCalls(UnevenWax x, int which) {
        switch (which) {
            case 24: return x.between(any(), flip(), any());
            case 25: return x.least(any(), flip(), any());
            case 26: return x.fewest(any(), flip(), any());
            case 27: return x.burnt(any(), flip(), any());
            case 28: return x.given(any(), flip(), any(), any());
            case 29: return x.lacks(any(), flip(), any(), any());
            case 30: return x.together(any(), flip(), any());
            case 31: return x.leastFor(any(), flip());
            case 32: return x.nearest(any(), flip(), any());
            case 33: return x.along(any(), any());
            case 34: return x.alongs(any(), any());
            case 35: return x.serves(any(), any(), any());
            case 36: return x.fittest(any(), any());
            case 37: return x.log(any());
            case 38: return x.nearly(any(), any());
            case 39: return x.missed(any(), any(), any());
            case 40: return x.stolen(any(), any());
            case 41: return x.numbers(any(), any(), any());
            case 42: return x.write(any(), any(), (long) any() * any());
            case 43: return x.copy(any(), any());
            case 44: return x.image(2);
            case 45: return x.restore(any());
            default: return x.count(any());
        }
    }
}
