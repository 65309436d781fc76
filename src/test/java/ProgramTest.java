/** Promises 1 to 4: a new object, function, add, handle. */
public final class ProgramTest {
    private ProgramTest() {
    }

    public static void main(String[] args) {
        newObject();
        functionBounds();
        functionClears();
        framesStay();
        operandEdges();
        operandsThatAreNot();
        thirtyInstructions();
        handlerEdges();
        firstHandlerCounts();
        Checks.finish("ProgramTest");
    }

    private static void newObject() {
        SnapForge x = new SnapForge();
        for (int what = 0; what <= 5; what++) {
            Checks.same("told of a new object", x.told(what), 0);
        }
        for (int what = 10; what < 70; what += 10) {
            for (int t = 0; t < 3; t++) {
                Checks.same("told of a thread of a new object", x.told(what + t), -1);
            }
        }
        Checks.same("image of a new object", x.image(-1), 0);
        Checks.same("where of a new object", x.where(), -2);
        Checks.early("run of a new object", () -> x.run(0));
        Checks.early("snapshot of a new object", x::snapshot);
        Checks.bad("run of too much comes first", () -> x.run(301));
        Checks.outside("said of a new object", () -> x.said(0));
        Checks.outside("value of a new object", () -> x.value(0));
        for (int f = 0; f < 6; f++) {
            Checks.same("arguments of a new function", x.start(f, 8, 9), 0);
            Checks.same("a new function has no code", x.run(1), 0);
            Checks.same("a new function ends behind", x.told(30), Ops.BEHIND);
        }
    }

    private static void functionBounds() {
        SnapForge x = new SnapForge();
        for (int n = 0; n <= 2; n++) {
            Checks.same("function", x.function(5, n), n);
            Checks.same("start tells the arguments", x.start(5, 1, 2), n);
        }
        Checks.bad("function -1", () -> x.function(-1, 0));
        Checks.bad("function 6", () -> x.function(6, 0));
        Checks.bad("arguments -1", () -> x.function(0, -1));
        Checks.bad("arguments 3", () -> x.function(5, 3));
        Checks.same("a refused call changes nothing", x.start(5, 1, 2), 2);
    }

    private static void functionClears() {
        SnapForge x = new SnapForge();
        for (int round = 0; round < 2; round++) {
            x.function(2, 1);
            for (int n = 1; n <= 30; n++) {
                Checks.same("add after function", x.add(2, Ops.NOP, 0, 0), n);
            }
            for (int n = 1; n <= 3; n++) {
                Checks.same("handle after function", x.handle(2, 0, 30, 0), n);
            }
        }
        Checks.same("another function keeps its own", x.add(3, Ops.NOP, 0, 0), 1);
        x.function(2, 0);
        x.start(2, 0, 0);
        Checks.same("the code is gone", x.run(9), 0);
        Checks.same("and the handlers", x.told(30), Ops.BEHIND);
    }

    private static void framesStay() {
        SnapForge x = Ops.started(Ops.op(Ops.INT, 4), Ops.op(Ops.INT, 5), Ops.op(Ops.RETURN));
        x.run(2);
        x.function(0, 1);
        Checks.same("the frame is there", x.told(20), 1);
        Checks.same("at its place", x.told(50), 2);
        Checks.same("with its stack", x.told(40), 2);
        x.add(0, Ops.NOP, 0, 0);
        x.add(0, Ops.NOP, 0, 0);
        x.add(0, Ops.ADD, 0, 0);
        x.add(0, Ops.RETURN, 0, 0);
        Checks.same("it goes on in the new code", x.run(2), 0);
        Checks.same("with its values", x.value(0), 9);
    }

    private static void operandEdges() {
        SnapForge x = new SnapForge();
        int[][] tops = {
            {Ops.LOAD, 3, -1}, {Ops.STORE, 3, -1}, {Ops.GET, 2, -1}, {Ops.PUT, 2, -1}, {Ops.CLOSE, 5, 2},
            {Ops.CALL, 5, -1}, {Ops.FORK, 5, -1}, {Ops.HELD, 1, -1}, {Ops.GOTO, -1, 29}, {Ops.IF, -1, 29}
        };
        for (int[] t : tops) {
            x.function(0, 0);
            int op = t[0];
            int a = Math.max(t[1], 0);
            int b = Math.max(t[2], 0);
            Checks.same("the highest operands of " + op, x.add(0, op, a, b), 1);
            Checks.same("the lowest operands of " + op, x.add(0, op, 0, 0), 2);
            if (t[1] >= 0) {
                Checks.bad("a too high for " + op, () -> x.add(0, op, a + 1, 0));
                Checks.bad("a too low for " + op, () -> x.add(0, op, -1, 0));
            }
            if (t[2] >= 0) {
                Checks.bad("b too high for " + op, () -> x.add(0, op, 0, b + 1));
                Checks.bad("b too low for " + op, () -> x.add(0, op, 0, -1));
            }
            Checks.same("refused instructions are not there", x.add(0, op, 0, 0), 3);
        }
        Checks.bad("op -1", () -> x.add(0, -1, 0, 0));
        Checks.bad("op 28", () -> x.add(0, 28, 0, 0));
        Checks.bad("f -1", () -> x.add(-1, 0, 0, 0));
        Checks.bad("f 6", () -> x.add(6, 0, 0, 0));
        x.function(0, 0);
        Checks.same("any int", x.add(0, Ops.INT, Integer.MIN_VALUE, 7), 1);
        Checks.same("any two ints", x.add(0, Ops.LONG, Integer.MAX_VALUE, Integer.MIN_VALUE), 2);
    }

    private static int codeSum(SnapForge x) {
        x.start(0, 0, 0);
        x.snapshot();
        return x.image(3);
    }

    private static void operandsThatAreNot() {
        boolean[] hasA = new boolean[28];
        boolean[] hasB = new boolean[28];
        for (int op : new int[] {1, 2, 4, 5, 17, 18, 19, 20, 21, 26}) {
            hasA[op] = true;
        }
        for (int op : new int[] {2, 14, 15, 19}) {
            hasB[op] = true;
        }
        for (int op = 0; op < 28; op++) {
            SnapForge x = new SnapForge();
            x.add(0, op, hasA[op] ? 1 : 77, hasB[op] ? 1 : -5);
            int due = op + (hasA[op] ? 1 : 0) + (hasB[op] ? 1 : 0);
            Checks.same("the code sum of op " + op, codeSum(x), due);
        }
    }

    private static void thirtyInstructions() {
        SnapForge x = new SnapForge();
        for (int n = 1; n <= 30; n++) {
            Checks.same("add", x.add(1, Ops.INT, n, 0), n);
        }
        Checks.early("add with 30", () -> x.add(1, Ops.NOP, 0, 0));
        Checks.bad("a wrong number comes first", () -> x.add(1, Ops.LOAD, 4, 0));
        Checks.same("another function has room", x.add(2, Ops.NOP, 0, 0), 1);
    }

    private static void handlerEdges() {
        SnapForge x = new SnapForge();
        Checks.bad("f -1", () -> x.handle(-1, 0, 1, 0));
        Checks.bad("f 6", () -> x.handle(6, 0, 1, 0));
        Checks.bad("from -1", () -> x.handle(0, -1, 1, 0));
        Checks.bad("from 30", () -> x.handle(0, 30, 31, 0));
        Checks.bad("to as from", () -> x.handle(0, 7, 7, 0));
        Checks.bad("to below from", () -> x.handle(0, 7, 6, 0));
        Checks.bad("to 31", () -> x.handle(0, 0, 31, 0));
        Checks.bad("at -1", () -> x.handle(0, 0, 1, -1));
        Checks.bad("at 30", () -> x.handle(0, 0, 1, 30));
        Checks.same("the widest", x.handle(0, 0, 30, 29), 1);
        Checks.same("the last place", x.handle(0, 29, 30, 0), 2);
        Checks.same("the first place", x.handle(0, 0, 1, 0), 3);
        Checks.early("a fourth one", () -> x.handle(0, 0, 1, 0));
        Checks.bad("a wrong number comes first", () -> x.handle(0, 0, 0, 0));
        Checks.same("of another function", x.handle(1, 0, 1, 0), 1);
    }

    private static void firstHandlerCounts() {
        SnapForge x = Ops.started(Ops.op(Ops.INT, 3), Ops.op(Ops.POP), Ops.op(Ops.POP),
            Ops.op(Ops.NOP), Ops.op(Ops.NOP), Ops.op(Ops.NOP));
        x.handle(0, 3, 30, 5);
        x.handle(0, 2, 3, 4);
        x.handle(0, 0, 30, 3);
        x.run(3);
        Checks.same("the first one that has the place", x.told(50), 4);
        Checks.same("the error alone", x.told(40), 1);
    }
}
