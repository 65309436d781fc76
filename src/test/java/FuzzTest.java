import java.util.Map;
import java.util.TreeMap;

/** Many random runs of calls, each answer compared with that of the model. */
public final class FuzzTest {
    private static final int RUNS = 6000;
    private static final int CALLS = 512;
    private static final String[] TO_BE_SEEN = {
        "full", "collected", "handled", "unwound", "return onto a full stack", "loaded", "unknown",
        "error 1", "error 2", "error 3", "error 4", "error 5", "error 6", "error 7", "error 16",
        "error 31", "fault head", "fault turn", "fault done", "fault threads", "fault status",
        "fault frames", "fault error", "fault function", "fault place", "fault closure",
        "fault kind", "fault stack", "fault number 24", "fault number above", "fault number limit",
        "fault number sort", "fault objects", "fault object that did not come up",
        "fault object sort", "fault function of closure", "fault held", "fault sum",
        "fault behind", "fault turn at last", "missing head", "missing code sum", "missing turn",
        "missing done", "missing threads", "missing status", "missing frames", "missing error",
        "missing function", "missing place", "missing kind", "missing byte", "missing stack",
        "missing number", "missing objects", "missing object", "missing function of closure",
        "missing held", "missing sum"
    };
    private static final int[][] SNIPPETS = {
        {16, 0, 0, 7, 0, 0, 4, 0, 0, 18, 1, 0, 5, 0, 0},
        {16, 0, 0, 5, 1, 0},
        {4, 1, 0, 4, 0, 0, 18, 2, 0},
        {4, 0, 0, 17, 1, 0, 5, 0, 0},
        {4, 0, 0, 4, 1, 0, 19, 1, 2, 5, 2, 0},
        {4, 0, 0, 4, 1, 0, 4, 2, 0, 22, 0, 0},
        {4, 2, 0, 22, 0, 0},
        {20, 0, 0, 20, 1, 0},
        {1, 7, 0, 1, 0, 0, 11, 0, 0},
        {2, 1, -5, 1, 3, 0, 10, 0, 0},
        {1, 1, 0, 1, 2, 0, 12, 0, 0, 15, 0, 0},
        {4, 0, 0, 25, 0, 0},
        {1, 5, 0, 24, 0, 0},
        {26, 1, 0, 6, 0, 0},
        {21, 2, 0, 6, 0, 0},
        {4, 3, 0, 23, 0, 0},
        {19, 3, 0, 22, 0, 0},
        {16, 0, 0, 16, 0, 0, 19, 4, 2, 4, 0, 0, 19, 5, 2, 5, 0, 0},
        {1, 1, 0, 7, 0, 0, 7, 0, 0, 7, 0, 0, 7, 0, 0, 7, 0, 0, 21, 5, 0},
    };
    // For runs in which local 0 is a record, 1 a number and 2 a closure with two values, mostly.
    private static final int[] PRELUDE = {
        16, 0, 0, 5, 0, 0, 1, 3, 0, 5, 1, 0, 4, 0, 0, 4, 1, 0, 19, 1, 2, 5, 2, 0
    };
    private static final int[][] TYPED = {
        {4, 1, 0, 1, 3, 0, 8, 0, 0, 5, 1, 0},
        {4, 1, 0, 2, 7, -9, 9, 0, 0, 5, 1, 0},
        {1, -7, 0, 4, 1, 0, 10, 0, 0, 5, 1, 0},
        {2, -2147483648, 0, 1, -1, 0, 11, 0, 0, 4, 1, 0, 8, 0, 0, 25, 0, 0},
        {4, 0, 0, 4, 0, 0, 13, 0, 0, 25, 0, 0},
        {4, 2, 0, 4, 3, 0, 13, 0, 0, 4, 1, 0, 8, 0, 0, 25, 0, 0},
        {4, 1, 0, 1, 50, 0, 12, 0, 0, 15, 0, 8},
        {4, 0, 0, 4, 2, 0, 18, 0, 0},
        {4, 0, 0, 4, 1, 0, 18, 1, 0},
        {16, 0, 0, 5, 3, 0, 4, 3, 0, 4, 0, 0, 18, 2, 0, 4, 3, 0, 5, 0, 0},
        {4, 0, 0, 17, 0, 0, 5, 3, 0},
        {4, 0, 0, 4, 3, 0, 19, 1, 2, 5, 2, 0},
        {4, 1, 0, 4, 1, 0, 4, 2, 0, 22, 0, 0, 5, 3, 0},
        {20, 0, 0, 5, 0, 0},
        {20, 1, 0, 5, 1, 0},
        {4, 0, 0, 4, 1, 0, 21, 3, 0, 5, 3, 0},
        {4, 0, 0, 4, 1, 0, 26, 4, 0, 25, 0, 0},
        {27, 0, 0},
        {4, 1, 0, 23, 0, 0},
        {4, 0, 0, 23, 0, 0},
        {14, 0, 8},
    };
    private static final int[] TAKES = {
        0, 0, 0, 0, 0, 1, 1, 1, 2, 2, 2, 2, 2, 2, 0, 1, 0, 1, 2, 2, 0, 2, 1, 1, 1, 1, 2, 0
    };
    private static final int[] GIVES = {
        0, 1, 1, 1, 1, 0, 0, 2, 1, 1, 1, 1, 1, 1, 0, 0, 1, 1, 0, 1, 1, 1, 1, 0, 0, 0, 1, 0
    };

    private long seed;
    private int calls;
    private int depth;
    private boolean typed;
    private SnapForge real;
    private Model model;
    private final StringBuilder log = new StringBuilder();
    private final Map<String, Integer> seen = new TreeMap<>();

    private FuzzTest() {
    }

    public static void main(String[] args) {
        FuzzTest test = new FuzzTest();
        for (int r = 0; r < RUNS; r++) {
            test.oneRun(r);
        }
        for (String what : TO_BE_SEEN) {
            Checks.same("the random runs reached " + what, test.seen.containsKey(what) ? 1 : 0, 1);
        }
        for (int op = 0; op <= 27; op++) {
            boolean done = op == 24 ? test.seen.containsKey("op 24") : test.seen.containsKey("done " + op);
            Checks.same("the random runs did op " + op, done ? 1 : 0, 1);
        }
        if (args.length > 0) {
            System.out.println(test.seen);
        }
        Checks.finish("FuzzTest");
    }

    /** A row of numbers that is the same each time. */
    private int below(int n) {
        seed = seed * 6364136223846793005L + 1442695040888963407L;
        return (int) Long.remainderUnsigned(seed >>> 20, n);
    }

    private static String outcome(Checks.Call call) {
        try {
            return Long.toString(call.answer());
        } catch (RuntimeException e) {
            return e.getClass().getSimpleName();
        }
    }

    private void both(String call, Checks.Call ofReal, Checks.Call ofModel) {
        calls++;
        String due = outcome(ofModel);
        String got = outcome(ofReal);
        log.append(call).append(" -> ").append(due).append('\n');
        Checks.same(call, got.equals(due) ? 0 : 1, 0);
        if (!got.equals(due)) {
            System.out.println(log + "the program answered " + got);
            System.exit(1);
        }
    }

    private void oneRun(int number) {
        seed = number * 7919L + 12345;
        calls = 0;
        log.setLength(0);
        real = new SnapForge();
        model = new Model(seen);
        if (below(20) == 0) {
            act();
        }
        typed = below(2) == 0;
        program();
        call("start", below(3) == 0 ? below(6) : 0, below(5) - 2, below(5) - 2);
        while (calls < CALLS - 80) {
            act();
        }
        tellAll();
        for (int k = 0; calls < CALLS && k < model.image.size(); k++) {
            call("image", k);
        }
    }

    private void program() {
        for (int f = 0; f < 6; f++) {
            if (below(6) == 0) {
                continue;
            }
            boolean simple = f == 5 && below(2) == 0;
            call("function", f, simple ? 0 : below(3), 0, 0);
            if (simple) {
                call("add", f, 4, 0, 0);
                call("add", f, 23, 0, 0);
                continue;
            }
            int size = below(6) == 0 ? 30 : 3 + below(14);
            depth = 0;
            if (typed && f % 2 == 0) {
                addAll(f, PRELUDE);
            }
            while (model.functions[f].code.size() < size) {
                addSome(f);
            }
            for (int i = below(8) / 2 - 1; i > 0; i--) {
                int from = below(20);
                call("handle", f, below(2) == 0 ? 0 : from, from + 1 + below(30 - from), below(size));
            }
        }
    }

    private void addSome(int f) {
        if (typed && below(8) != 0) {
            addAll(f, TYPED[below(TYPED.length)]);
            return;
        }
        if (below(2) == 0) {
            addAll(f, SNIPPETS[below(SNIPPETS.length)]);
            return;
        }
        int op = below(28);
        for (int i = 0; i < 5 && (TAKES[op] > depth || depth - TAKES[op] + GIVES[op] > 6); i++) {
            op = below(28);
        }
        depth = Math.max(0, depth - TAKES[op]) + GIVES[op];
        int[] tops = {0, 1 << 30, 1 << 30, 0, 4, 4, 0, 0, 0, 0, 0, 0, 0, 0, 0, 0, 0, 3, 3, 6, 2, 6, 0, 0, 0, 0, 6, 0};
        int a = tops[op] == 0 ? below(3) - 1 : tops[op] > 6 ? wide() : below(tops[op]);
        int b = op == 2 ? wide() : op == 14 || op == 15 ? below(16) : below(3);
        call("add", f, op, a, b);
    }

    private void addAll(int f, int[] parts) {
        for (int i = 0; i < parts.length; i += 3) {
            call("add", f, parts[i], parts[i + 1], parts[i + 2]);
        }
    }

    private int wide() {
        int[] some = {0, 1, -1, 2, Integer.MAX_VALUE, Integer.MIN_VALUE, 255, 65536};
        return below(4) == 0 ? (int) seed : some[below(some.length)];
    }

    private void act() {
        int kind = below(100);
        if (kind < 30) {
            call("run", below(8) == 0 ? below(305) - 2 : below(9));
            tellSome();
        } else if (kind < 40) {
            call("snapshot");
        } else if (kind < 75) {
            spoil();
        } else if (kind < 80) {
            call("load");
            call("where");
        } else if (kind < 84) {
            call("cut", below(10) == 0 ? below(60) - 5 : model.image.size() + 1 - below(4));
        } else if (kind < 90) {
            call("image", below(model.image.size() + 3) - 2);
        } else if (kind < 93) {
            call("said", below(45) - 1);
            call("value", below(5) - 1);
        } else if (kind < 96) {
            change();
        } else if (kind < 98) {
            call("start", below(8) - 1, wide(), wide());
        } else {
            tellAll();
        }
    }

    /** An image of now with a few bytes changed, read, and run for a while if that went well. */
    private void spoil() {
        if (below(4) != 0) {
            call("snapshot");
        }
        for (int i = below(3); i >= 0; i--) {
            int size = model.image.size();
            int k = below(5) == 0 ? below(14) : Math.min(4 + below(size + 1), below(size + 1) + size / 2);
            int b = below(5) == 0 ? below(258) - 1 : below(3) == 0 ? below(32) : below(5);
            patchBoth(k, b, below(8) != 0);
        }
        if (below(6) == 0) {
            call("cut", below(model.image.size() + 1));
        }
        call("load");
        call("where");
        if (below(2) == 0) {
            call("run", below(30));
            tellSome();
        }
    }

    private void change() {
        int f = below(8) - 1;
        switch (below(3)) {
            case 0 -> call("function", f, below(5) - 1, 0, 0);
            case 1 -> call("add", f, below(30) - 1, below(8) - 1, below(32) - 1);
            default -> call("handle", f, below(32) - 1, below(33) - 1, below(32) - 1);
        }
    }

    private void tellSome() {
        call("told", below(6));
        call("told", 10 * (1 + below(6)) + below(3));
    }

    private void tellAll() {
        for (int what = -1; what <= 5; what++) {
            call("told", what);
        }
        for (int what = 10; what < 70; what += 10) {
            for (int t = 0; t < 4; t++) {
                call("told", what + t);
            }
        }
        for (int t = 0; t < 3; t++) {
            call("value", t);
        }
        call("snapshot");
        call("image", -1);
    }

    private void patchBoth(int k, int b, boolean sum) {
        SnapForge x = real;
        Model m = model;
        both("patch " + k + " " + b + " " + sum, () -> x.patch(k, b, sum), () -> m.patch(k, b, sum));
    }

    private void call(String name, int... p) {
        SnapForge x = real;
        Model m = model;
        String told = name + " " + java.util.Arrays.toString(p);
        switch (name) {
            case "function" -> both(told, () -> x.function(p[0], p[1]), () -> m.function(p[0], p[1]));
            case "add" -> both(told, () -> x.add(p[0], p[1], p[2], p[3]), () -> m.add(p[0], p[1], p[2], p[3]));
            case "handle" ->
                both(told, () -> x.handle(p[0], p[1], p[2], p[3]), () -> m.handle(p[0], p[1], p[2], p[3]));
            case "start" -> both(told, () -> x.start(p[0], p[1], p[2]), () -> m.start(p[0], p[1], p[2]));
            case "run" -> both(told, () -> x.run(p[0]), () -> m.run(p[0]));
            case "said" -> both(told, () -> x.said(p[0]), () -> m.said(p[0]));
            case "value" -> both(told, () -> x.value(p[0]), () -> m.value(p[0]));
            case "told" -> both(told, () -> x.told(p[0]), () -> m.told(p[0]));
            case "snapshot" -> both(told, x::snapshot, m::snapshot);
            case "load" -> both(told, x::load, m::load);
            case "where" -> both(told, x::where, m::where);
            case "image" -> both(told, () -> x.image(p[0]), () -> m.image(p[0]));
            case "cut" -> both(told, () -> x.cut(p[0]), () -> m.cut(p[0]));
            default -> throw new AssertionError(name);
        }
    }
}
