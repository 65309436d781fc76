import com.sun.management.ThreadMXBean;
import java.lang.management.ManagementFactory;

/** All calls of a run live in one room, so calls make nothing; only a new object takes room. */
public final class RoomTest {
    private RoomTest() {
    }

    public static void main(String[] args) {
        ThreadMXBean bean = (ThreadMXBean) ManagementFactory.getThreadMXBean();
        for (int warm = 0; warm < 8; warm++) {
            calls(made(), 95);
        }
        SnapForge x = made();
        long before = bean.getCurrentThreadAllocatedBytes();
        calls(x, 95);
        long during = bean.getCurrentThreadAllocatedBytes() - before;
        Checks.same("calls make nothing: " + during + " bytes", during < 4096 ? 1 : 0, 1);
        before = bean.getCurrentThreadAllocatedBytes();
        made();
        long size = bean.getCurrentThreadAllocatedBytes() - before;
        Checks.same("a new object is small: " + size + " bytes", size < 40000 ? 1 : 0, 1);
        Checks.finish("RoomTest");
    }

    /** Threads that make records and closures all the time, and say what they do. */
    private static SnapForge made() {
        SnapForge x = new SnapForge();
        int[][] code = {
            {Ops.FORK, 0, 0}, {Ops.POP, 0, 0}, {Ops.NEW, 0, 0}, {Ops.STORE, 0, 0}, {Ops.LOAD, 0, 0},
            {Ops.CLOSE, 1, 1}, {Ops.APPLY, 0, 0}, {Ops.SAY, 0, 0}, {Ops.GOTO, 0, 2}
        };
        for (int[] i : code) {
            x.add(0, i[0], i[1], i[2]);
        }
        x.add(1, Ops.INT, 3, 0);
        x.add(1, Ops.RETURN, 0, 0);
        x.handle(0, 0, 1, 2);
        x.start(0, 0, 0);
        return x;
    }

    private static void calls(SnapForge x, int rounds) {
        for (int i = 0; i < rounds; i++) {
            x.run(300);
            x.snapshot();
            x.load();
            x.patch(1, 78, true);
            x.told(3);
        }
    }
}
