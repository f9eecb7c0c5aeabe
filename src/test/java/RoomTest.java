import java.lang.management.ManagementFactory;

/** All calls of a run live in one room: what a new object and its dearest 512 calls make is measured. */
public final class RoomTest {
    public static void main(String[] args) {
        // The first one also makes what loading the classes needs.
        ClockChoir x = new ClockChoir();
        long before = made();
        x = new ClockChoir();
        Due.due("a new object is small", true, made() - before < 64 * 1024);
        StringBuilder law = new StringBuilder("x(s=9)");
        while (law.length() < 220) {
            law.append(";u1+2(p<0)");
        }
        Due.law(x, law.toString());
        for (int i = 0; i < 8; i++) {
            x.singer(i, i - 4, i, 0, 20);
            Due.roll(x, i, "(abcdefga,)x4(abc^.)x5");
        }
        x.tempo(300);
        int calls = 64;
        before = made();
        int sum = 0;
        while (calls < 512) {
            sum += x.tried(240, 10) + x.end(240, 0) + x.spread(240) + x.firstCome(240, 1) + x.together(0, 7, 240);
            sum += x.canon(0, 1, 100) + x.returns(0, 1, 0) + x.breaths(0, 3, 100) + x.groups(100) + x.agree(9, 9, 0);
            sum += x.keep() + (x.undo() ? 1 : 0) + x.feed(1, 2, 3, 4, 5) + x.roll(0, 1) + x.leads(0) + x.sounds(0);
            calls += 16;
        }
        Due.due("calls make nothing", true, made() - before < 16 * 1024);
        Due.due("and answer", true, sum != 0);
        Due.finish("RoomTest");
    }

    private static long made() {
        if (ManagementFactory.getThreadMXBean() instanceof com.sun.management.ThreadMXBean bean) {
            return bean.getThreadAllocatedBytes(Thread.currentThread().getId());
        }
        return 0;
    }
}
