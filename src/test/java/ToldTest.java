/** Promises 7 to 9: said, value, told. */
public final class ToldTest {
    private ToldTest() {
    }

    public static void main(String[] args) {
        firstFortyAreKept();
        saidOfStartAndLoad();
        values();
        whatIsTold();
        toldOfThreads();
        otherNumbers();
        toldAfterLoad();
        Checks.finish("ToldTest");
    }

    private static void firstFortyAreKept() {
        SnapForge x = new SnapForge();
        Ops.code(x, 0, 1, Ops.op(Ops.LOAD, 0), Ops.op(Ops.SAY), Ops.op(Ops.LOAD, 0), Ops.op(Ops.INT, 1),
            Ops.op(Ops.ADD), Ops.op(Ops.STORE, 0), Ops.op(Ops.GOTO, 0));
        x.start(0, 100, 0);
        x.run(1);
        Checks.outside("nothing said yet", () -> x.said(0));
        x.run(1);
        Checks.same("said 0", x.said(0), 100);
        Checks.outside("not yet", () -> x.said(1));
        x.run(298);
        Checks.same("43 said", x.told(5), 43);
        for (int k = 0; k < 40; k++) {
            Checks.same("said " + k, x.said(k), 100 + k);
        }
        Checks.outside("the 41st is not kept", () -> x.said(40));
        Checks.outside("said -1", () -> x.said(-1));
    }

    private static void saidOfStartAndLoad() {
        SnapForge x = Ops.started(Ops.op(Ops.LONG, -1, 5), Ops.op(Ops.SAY), Ops.op(Ops.GOTO, 0));
        x.snapshot();
        x.run(3);
        Checks.same("a long", x.said(0), -4294967291L);
        x.load();
        Checks.same("load keeps what was said", x.told(5), 1);
        x.run(2);
        Checks.same("and adds to it", x.said(1), -4294967291L);
        x.start(0, 0, 0);
        Checks.outside("start does not keep it", () -> x.said(0));
    }

    private static void values() {
        SnapForge x = Ops.started(Ops.op(Ops.FORK, 1), Ops.op(Ops.FORK, 2), Ops.op(Ops.LONG, 1, 2),
            Ops.op(Ops.RETURN));
        Ops.code(x, 1, 0, Ops.op(Ops.NEW), Ops.op(Ops.RETURN));
        Ops.code(x, 2, 0, Ops.op(Ops.POP));
        Checks.outside("no thread 1 yet", () -> x.value(1));
        Checks.early("it runs", () -> x.value(0));
        x.run(300);
        Checks.same("a long", x.value(0), 4294967298L);
        Checks.unsupported("a record", () -> x.value(1));
        Checks.early("it failed", () -> x.value(2));
        Checks.outside("no thread 3", () -> x.value(3));
        Checks.outside("no thread -1", () -> x.value(-1));
        SnapForge y = Ops.started(Ops.op(Ops.CLOSE, 0, 0), Ops.op(Ops.RETURN));
        y.run(2);
        Checks.unsupported("a closure", () -> y.value(0));
    }

    private static void whatIsTold() {
        SnapForge x = Ops.started(Ops.op(Ops.NEW), Ops.op(Ops.FORK, 0), Ops.op(Ops.SAY), Ops.op(Ops.NOP),
            Ops.op(Ops.NOP));
        x.run(6);
        int[] due = {3, 1, 2, 2, 6, 1};
        for (int what = 0; what < 6; what++) {
            Checks.same("told " + what, x.told(what), due[what]);
        }
    }

    private static void toldOfThreads() {
        SnapForge x = Ops.started(Ops.op(Ops.FORK, 1), Ops.op(Ops.FORK, 2), Ops.op(Ops.CALL, 3));
        Ops.code(x, 1, 0, Ops.op(Ops.NULL), Ops.op(Ops.RETURN));
        Ops.code(x, 2, 0, Ops.op(Ops.INT, 4), Ops.op(Ops.THROW));
        Ops.code(x, 3, 0, Ops.op(Ops.NULL), Ops.op(Ops.GOTO, 1));
        x.run(20);
        int[][] due = {
            {0, 1, 2}, {2, 0, 0}, {0, 0, 20}, {1, -1, -1}, {1, -1, -1}, {3, -1, -1}
        };
        for (int i = 0; i < due.length; i++) {
            for (int t = 0; t < 3; t++) {
                int what = 10 * (i + 1) + t;
                Checks.same("told " + what, x.told(what), due[i][t]);
            }
        }
        SnapForge y = Ops.started(Ops.op(Ops.NOP));
        for (int what = 10; what < 70; what += 10) {
            Checks.same("there is no thread 1", y.told(what + 1), -1);
            Checks.same("there is no thread 2", y.told(what + 2), -1);
        }
    }

    private static void otherNumbers() {
        SnapForge x = Ops.started(Ops.op(Ops.NOP));
        SnapForge y = new SnapForge();
        for (int what : new int[] {-1, -10, 6, 9, 13, 19, 23, 33, 43, 53, 63, 69, 70, 71, 100, 1010,
            Integer.MIN_VALUE, Integer.MAX_VALUE}) {
            Checks.bad("told " + what, () -> x.told(what));
            Checks.bad("told " + what + " of a new object", () -> y.told(what));
        }
    }

    private static void toldAfterLoad() {
        SnapForge x = Ops.started(Ops.op(Ops.NEW), Ops.op(Ops.POP), Ops.op(Ops.GOTO, 0));
        x.run(7);
        x.snapshot();
        Checks.same("counted", x.told(3), 3);
        x.load();
        Checks.same("only those in the image", x.told(3), 1);
        Checks.same("done in all stays", x.told(4), 7);
        x.run(2);
        Checks.same("and goes on", x.told(4), 9);
    }
}
