/** Promises 5 and 6: start and run, with the instructions, errors, handlers, objects and turns. */
public final class RunTest {
    private static final long TWO_32 = 4294967296L;

    private RunTest() {
    }

    public static void main(String[] args) {
        start();
        startAnew();
        limits();
        numbers();
        misfits();
        comparisons();
        jumps();
        records();
        closures();
        calls();
        stackErrors();
        orderOfErrors();
        errorsGoDown();
        returnOntoFullStack();
        thrown();
        forks();
        turns();
        collection();
        collectionKeeps();
        fullStackAfterSearch();
        Checks.finish("RunTest");
    }

    private static void start() {
        SnapForge x = new SnapForge();
        Ops.code(x, 1, 2, Ops.op(Ops.LOAD, 0), Ops.op(Ops.LOAD, 1), Ops.op(Ops.SUB), Ops.op(Ops.SAY),
            Ops.op(Ops.NEW), Ops.op(Ops.LOAD, 2), Ops.op(Ops.SAME), Ops.op(Ops.RETURN));
        Checks.bad("start -1", () -> x.start(-1, 0, 0));
        Checks.bad("start 6", () -> x.start(6, 0, 0));
        Checks.early("a refused start starts nothing", () -> x.run(1));
        Checks.same("start", x.start(1, 10, 3), 2);
        Checks.same("run to the end", x.run(300), 0);
        Checks.same("x and y in order", x.said(0), 7);
        Checks.same("another local is null", x.value(0), 0);
        Checks.same("an object", x.told(3), 1);
        x.start(1, 3, 10);
        Checks.same("threads of a new start", x.told(0), 1);
        Checks.same("none counted", x.told(3), 0);
        Checks.same("none done", x.told(4), 0);
        Checks.same("nothing said", x.told(5), 0);
        Checks.outside("nothing to hear", () -> x.said(0));
        Checks.same("it runs", x.told(10), 0);
        Ops.code(x, 2, 1, Ops.op(Ops.LOAD, 1), Ops.op(Ops.RETURN));
        Checks.same("one argument", x.start(2, 5, 6), 1);
        x.run(2);
        Checks.unsupported("y is not taken", () -> x.value(0));
    }

    /** What a start leaves behind is nothing to the next one. */
    private static void startAnew() {
        SnapForge x = new SnapForge();
        Ops.code(x, 0, 2, Ops.op(Ops.FORK, 1), Ops.op(Ops.NEW), Ops.op(Ops.DUP), Ops.op(Ops.STORE, 2),
            Ops.op(Ops.LOAD, 0), Ops.op(Ops.PUT, 1), Ops.op(Ops.GOTO, 6));
        Ops.code(x, 1, 0, Ops.op(Ops.GOTO, 0));
        x.start(0, 7, 8);
        x.run(6);
        Checks.same("the turn of another", x.told(1), 1);
        Checks.same("some done in it", x.told(2), 2);
        Ops.code(x, 2, 0, Ops.op(Ops.LOAD, 2), Ops.op(Ops.LOAD, 0), Ops.op(Ops.SAME), Ops.op(Ops.SAY),
            Ops.op(Ops.NEW), Ops.op(Ops.GET, 1), Ops.op(Ops.NULL), Ops.op(Ops.SAME), Ops.op(Ops.RETURN));
        Checks.same("a start without arguments", x.start(2, 3, 4), 0);
        Checks.same("the turn of thread 0", x.told(1), 0);
        Checks.same("none done in it", x.told(2), 0);
        Checks.same("an empty stack", x.told(40), 0);
        Checks.same("it ends", x.run(300), 0);
        Checks.same("all locals are the same null", x.said(0), 1);
        Checks.same("a field is null at first", x.value(0), 1);
        for (int i = 0; i < 30; i++) {
            x.start(2, 0, 0);
            x.run(300);
            Checks.same("one record each time", x.told(3), 1);
        }
    }

    private static void limits() {
        SnapForge x = Ops.started(Ops.op(Ops.GOTO, 0));
        Checks.bad("run -1", () -> x.run(-1));
        Checks.bad("run 301", () -> x.run(301));
        Checks.same("run 0", x.run(0), 1);
        Checks.same("none done", x.told(4), 0);
        Checks.same("run 300", x.run(300), 1);
        Checks.same("300 done", x.told(4), 300);
        SnapForge y = Ops.started(Ops.op(Ops.NULL), Ops.op(Ops.RETURN));
        Checks.same("the end is found", y.run(2), 0);
        Checks.same("and stays", y.run(300), 0);
        Checks.same("two done", y.told(4), 2);
        Checks.unsupported("null is no number", () -> y.value(0));
    }

    /** What comes of an op on two numbers; INT as {a}, LONG as {a, b}. */
    private static SnapForge binary(int op, int[] x, int[] y) {
        SnapForge forge = Ops.started(number(x), number(y), Ops.op(op), Ops.op(Ops.DUP),
            Ops.op(Ops.SAY), Ops.op(Ops.RETURN));
        forge.run(300);
        return forge;
    }

    private static int[] number(int[] n) {
        return n.length == 1 ? Ops.op(Ops.INT, n[0]) : Ops.op(Ops.LONG, n[0], n[1]);
    }

    private static int[] n(int... parts) {
        return parts;
    }

    /** 1 for an INT, 2 for a LONG, as the image tells it. */
    private static void gives(String what, SnapForge x, int kind, long due) {
        Checks.same(what, x.value(0), due);
        Checks.same(what + " said", x.said(0), due);
        x.snapshot();
        Checks.same(what + " kind", x.image(8), kind);
    }

    private static void numbers() {
        int max = Integer.MAX_VALUE;
        int min = Integer.MIN_VALUE;
        gives("1 + 2", binary(Ops.ADD, n(1), n(2)), 1, 3);
        gives("wrapping int sum", binary(Ops.ADD, n(max), n(1)), 1, min);
        gives("wrapping int difference", binary(Ops.SUB, n(min), n(1)), 1, max);
        gives("wrapping int product", binary(Ops.MUL, n(65537), n(65537)), 1, 131073);
        gives("min / -1", binary(Ops.DIV, n(min), n(-1)), 1, min);
        gives("-7 / 2", binary(Ops.DIV, n(-7), n(2)), 1, -3);
        gives("int + long", binary(Ops.ADD, n(max), n(0, 1)), 2, 2147483648L);
        gives("long - int", binary(Ops.SUB, n(1, 0), n(1)), 2, TWO_32 - 1);
        gives("long * long", binary(Ops.MUL, n(1, 0), n(1, 1)), 2, TWO_32);
        gives("int / long", binary(Ops.DIV, n(7), n(0, 2)), 2, 3);
        gives("long min / -1", binary(Ops.DIV, n(min, 0), n(-1)), 2, Long.MIN_VALUE);
        gives("wrapping long sum", binary(Ops.ADD, n(max, -1), n(min, 0)), 2, -TWO_32 - 1);
        SnapForge x = Ops.started(Ops.op(Ops.LONG, 1, -1), Ops.op(Ops.RETURN));
        x.run(9);
        gives("b has its sign", binary(Ops.ADD, n(1, -1), n(0)), 2, TWO_32 - 1);
        Checks.same("LONG alone", x.value(0), TWO_32 - 1);
        fails("1 / 0", binary(Ops.DIV, n(1), n(0)), Ops.ZERO);
        fails("1 / long 0", binary(Ops.DIV, n(1), n(0, 0)), Ops.ZERO);
        fails("long / 0", binary(Ops.DIV, n(1, 1), n(0)), Ops.ZERO);
    }

    private static void fails(String what, SnapForge x, int error) {
        x.run(300);
        Checks.same(what + " fails", x.told(10), 2);
        Checks.same(what, x.told(30), error);
        Checks.same(what + " leaves no frame", x.told(20), 0);
    }

    private static void misfits() {
        int[][] others = {Ops.op(Ops.NULL), Ops.op(Ops.NEW), Ops.op(Ops.CLOSE, 1, 0)};
        for (int op = Ops.ADD; op <= Ops.LESS; op++) {
            for (int[] other : others) {
                fails(op + " of x", Ops.started(other, Ops.op(Ops.INT, 0), Ops.op(op)), Ops.MISFIT);
                fails(op + " of y", Ops.started(Ops.op(Ops.INT, 0), other, Ops.op(op)), Ops.MISFIT);
            }
        }
        for (int[] other : others) {
            fails("SAY", Ops.started(other, Ops.op(Ops.SAY)), Ops.MISFIT);
            fails("IF", Ops.started(other, Ops.op(Ops.IF, 0)), Ops.MISFIT);
            fails("THROW", Ops.started(other, Ops.op(Ops.THROW)), Ops.MISFIT);
        }
        fails("IF of a long", Ops.started(Ops.op(Ops.LONG, 0, 1), Ops.op(Ops.IF, 0)), Ops.MISFIT);
        fails("THROW of a long", Ops.started(Ops.op(Ops.LONG, 0, 1), Ops.op(Ops.THROW)), Ops.MISFIT);
        for (int op : new int[] {Ops.GET, Ops.APPLY}) {
            fails(op + " of null", Ops.started(Ops.op(Ops.NULL), Ops.op(op)), Ops.NOTHING);
            fails(op + " of int", Ops.started(Ops.op(Ops.INT, 0), Ops.op(op)), Ops.MISFIT);
            fails(op + " of long", Ops.started(Ops.op(Ops.LONG, 0, 0), Ops.op(op)), Ops.MISFIT);
        }
        int[] y = Ops.op(Ops.NEW);
        fails("GET of a closure", Ops.started(Ops.op(Ops.CLOSE, 1, 0), Ops.op(Ops.GET)), Ops.MISFIT);
        fails("APPLY of a record", Ops.started(Ops.op(Ops.NEW), Ops.op(Ops.APPLY)), Ops.MISFIT);
        fails("PUT into null", Ops.started(Ops.op(Ops.NULL), y, Ops.op(Ops.PUT)), Ops.NOTHING);
        fails("PUT into int", Ops.started(Ops.op(Ops.INT, 3), y, Ops.op(Ops.PUT)), Ops.MISFIT);
        fails("PUT into closure", Ops.started(Ops.op(Ops.CLOSE, 1, 0), y, Ops.op(Ops.PUT)), Ops.MISFIT);
    }

    private static void comparisons() {
        gives("1 < 2", binary(Ops.LESS, n(1), n(2)), 1, 1);
        gives("2 < 2", binary(Ops.LESS, n(2), n(2)), 1, 0);
        gives("3 < 2", binary(Ops.LESS, n(3), n(2)), 1, 0);
        gives("int < long", binary(Ops.LESS, n(-1), n(0, 0)), 1, 1);
        gives("long < int", binary(Ops.LESS, n(1, 0), n(5)), 1, 0);
        gives("the same ints", binary(Ops.SAME, n(5), n(5)), 1, 1);
        gives("other ints", binary(Ops.SAME, n(5), n(6)), 1, 0);
        gives("the same longs", binary(Ops.SAME, n(1, 5), n(1, 5)), 1, 1);
        gives("int and long", binary(Ops.SAME, n(5), n(0, 5)), 1, 0);
        same("nulls", 1, Ops.op(Ops.NULL), Ops.op(Ops.NULL));
        same("a null local and null", 1, Ops.op(Ops.LOAD, 3), Ops.op(Ops.NULL));
        same("null and 0", 0, Ops.op(Ops.NULL), Ops.op(Ops.INT, 0));
        same("one record", 1, Ops.op(Ops.NEW), Ops.op(Ops.DUP));
        same("two records", 0, Ops.op(Ops.NEW), Ops.op(Ops.NEW));
        same("one closure", 1, Ops.op(Ops.CLOSE, 2, 0), Ops.op(Ops.DUP));
        same("two closures", 0, Ops.op(Ops.CLOSE, 2, 0), Ops.op(Ops.CLOSE, 2, 0));
        same("a record and 0", 0, Ops.op(Ops.NEW), Ops.op(Ops.INT, 0));
    }

    private static void same(String what, int due, int[] x, int[] y) {
        SnapForge forge = Ops.started(x, y, Ops.op(Ops.SAME), Ops.op(Ops.RETURN));
        forge.run(9);
        Checks.same("SAME of " + what, forge.value(0), due);
    }

    private static void jumps() {
        SnapForge x = Ops.started(Ops.op(Ops.INT, 1), Ops.op(Ops.IF, 4), Ops.op(Ops.INT, 5),
            Ops.op(Ops.RETURN), Ops.op(Ops.INT, 0), Ops.op(Ops.IF, 0), Ops.op(Ops.GOTO, 2));
        Checks.same("jumps", x.run(6), 1);
        Checks.same("one more", x.run(1), 0);
        Checks.same("came to", x.value(0), 5);
        SnapForge y = Ops.started(Ops.op(Ops.INT, -1), Ops.op(Ops.IF, 29));
        y.run(2);
        Checks.same("a place behind the code", y.told(50), 29);
        fails("nothing there", y, Ops.BEHIND);
        Checks.same("BEHIND is one, too", y.told(4), 3);
    }

    private static void records() {
        SnapForge x = Ops.started(Ops.op(Ops.NEW), Ops.op(Ops.STORE, 3),
            Ops.op(Ops.LOAD, 3), Ops.op(Ops.INT, 11), Ops.op(Ops.PUT, 0),
            Ops.op(Ops.LOAD, 3), Ops.op(Ops.INT, 22), Ops.op(Ops.PUT, 2),
            Ops.op(Ops.LOAD, 3), Ops.op(Ops.GET, 0), Ops.op(Ops.SAY),
            Ops.op(Ops.LOAD, 3), Ops.op(Ops.GET, 2), Ops.op(Ops.SAY),
            Ops.op(Ops.LOAD, 3), Ops.op(Ops.GET, 1), Ops.op(Ops.RETURN));
        x.run(300);
        Checks.same("field 0", x.said(0), 11);
        Checks.same("field 2", x.said(1), 22);
        Checks.unsupported("field 1 is null at first", () -> x.value(0));
    }

    private static void closures() {
        SnapForge x = Ops.started(Ops.op(Ops.INT, 1), Ops.op(Ops.INT, 10), Ops.op(Ops.INT, 20),
            Ops.op(Ops.CLOSE, 1, 2), Ops.op(Ops.STORE, 0), Ops.op(Ops.INT, 300), Ops.op(Ops.INT, 4000),
            Ops.op(Ops.LOAD, 0), Ops.op(Ops.APPLY), Ops.op(Ops.SAY), Ops.op(Ops.RETURN));
        Ops.code(x, 1, 2, Ops.op(Ops.HELD, 0), Ops.op(Ops.SAY), Ops.op(Ops.HELD, 1), Ops.op(Ops.SAY),
            Ops.op(Ops.LOAD, 0), Ops.op(Ops.SAY), Ops.op(Ops.LOAD, 1), Ops.op(Ops.RETURN));
        x.run(300);
        int[] due = {10, 20, 300, 4000};
        for (int k = 0; k < 4; k++) {
            Checks.same("said " + k, x.said(k), due[k]);
        }
        Checks.same("what lay below", x.value(0), 1);
        fails("HELD without a closure", Ops.started(Ops.op(Ops.HELD, 0)), Ops.NOTHING);
        SnapForge y = Ops.started(Ops.op(Ops.INT, 1), Ops.op(Ops.CLOSE, 1, 1), Ops.op(Ops.APPLY));
        Ops.code(y, 1, 0, Ops.op(Ops.HELD, 1));
        fails("HELD of one that it has not", y, Ops.NOTHING);
        SnapForge z = Ops.started(Ops.op(Ops.CLOSE, 1, 0), Ops.op(Ops.APPLY));
        Ops.code(z, 1, 0, Ops.op(Ops.CALL, 2));
        Ops.code(z, 2, 0, Ops.op(Ops.HELD, 0));
        fails("CALL brings no closure", z, Ops.NOTHING);
    }

    private static void calls() {
        SnapForge x = Ops.started(Ops.op(Ops.INT, 9), Ops.op(Ops.INT, 7), Ops.op(Ops.INT, 2),
            Ops.op(Ops.CALL, 4), Ops.op(Ops.MUL), Ops.op(Ops.RETURN));
        Ops.code(x, 4, 2, Ops.op(Ops.LOAD, 0), Ops.op(Ops.LOAD, 1), Ops.op(Ops.SUB), Ops.op(Ops.RETURN));
        x.run(4);
        Checks.same("two frames", x.told(20), 2);
        Checks.same("in function", x.told(60), 4);
        Checks.same("at its begin", x.told(50), 0);
        Checks.same("with an empty stack", x.told(40), 0);
        x.run(4);
        Checks.same("back", x.told(60), 0);
        Checks.same("behind the call", x.told(50), 4);
        x.run(9);
        Checks.same("the result", x.value(0), 45);
        SnapForge y = Ops.started(Ops.op(Ops.CALL, 0));
        y.run(4);
        Checks.same("five frames", y.told(20), 5);
        fails("a sixth one", y, Ops.DEEP);
        Checks.same("in one instruction", y.told(4), 5);
        SnapForge z = Ops.started(Ops.op(Ops.CLOSE, 0, 0), Ops.op(Ops.APPLY));
        z.run(8);
        Checks.same("five frames applied", z.told(20), 5);
        fails("a sixth one applied", z, Ops.DEEP);
    }

    private static void stackErrors() {
        int[] takesOne = {Ops.STORE, Ops.POP, Ops.DUP, Ops.IF, Ops.GET, Ops.APPLY, Ops.RETURN,
            Ops.THROW, Ops.SAY};
        int[] takesTwo = {Ops.ADD, Ops.SUB, Ops.MUL, Ops.DIV, Ops.LESS, Ops.SAME, Ops.PUT};
        for (int op : takesOne) {
            fails("empty stack for " + op, Ops.started(Ops.op(op, 0)), Ops.STACK);
        }
        for (int op : takesTwo) {
            fails("one value for " + op, Ops.started(Ops.op(Ops.NULL), Ops.op(op)), Ops.STACK);
        }
        for (int op : new int[] {Ops.CALL, Ops.FORK}) {
            SnapForge x = Ops.started(Ops.op(Ops.NULL), Ops.op(op, 3));
            x.function(3, 2);
            fails("one argument for " + op, x, Ops.STACK);
        }
        fails("one value for CLOSE", Ops.started(Ops.op(Ops.NULL), Ops.op(Ops.CLOSE, 0, 2)), Ops.STACK);
        int[][] gives = {Ops.op(Ops.INT, 1), Ops.op(Ops.LONG, 1, 1), Ops.op(Ops.NULL), Ops.op(Ops.LOAD, 0),
            Ops.op(Ops.DUP), Ops.op(Ops.NEW), Ops.op(Ops.CLOSE, 1, 0), Ops.op(Ops.FORK, 1)};
        for (int[] give : gives) {
            SnapForge x = six(give);
            x.run(6);
            Checks.same("six values", x.told(40), 6);
            fails("a seventh by " + give[0], x, Ops.STACK);
            Checks.same("nothing made", x.told(3), 0);
            Checks.same("nothing begun", x.told(0), 1);
        }
        int[][] takers = {Ops.op(Ops.CLOSE, 1, 1), Ops.op(Ops.FORK, 1)};
        for (int[] taker : takers) {
            SnapForge y = six(taker);
            y.function(1, 1);
            y.run(7);
            Checks.same("one goes, one comes by " + taker[0], y.told(40), 6);
            SnapForge z = Ops.code(y, 0, 0, Ops.op(Ops.NULL), Ops.op(Ops.NULL), Ops.op(Ops.NULL),
                Ops.op(Ops.NULL), Ops.op(Ops.NULL), taker);
            z.start(0, 0, 0);
            z.run(6);
            Checks.same("with five by " + taker[0], z.told(40), 5);
        }
    }

    /** Six values and then this instruction. */
    private static SnapForge six(int[] last) {
        int[] i = Ops.op(Ops.INT, 8);
        return Ops.started(i, i, i, i, i, i, last);
    }

    private static void orderOfErrors() {
        SnapForge x = Ops.started(Ops.op(Ops.NULL), Ops.op(Ops.CLOSE, 1, 0), Ops.op(Ops.APPLY));
        Ops.code(x, 1, 2);
        fails("the arguments of APPLY behind x", x, Ops.STACK);
        SnapForge y = Ops.started(Ops.op(Ops.NULL), Ops.op(Ops.APPLY));
        fails("x before its arguments", y, Ops.NOTHING);
        SnapForge z = Ops.started(Ops.op(Ops.CALL, 1));
        Ops.code(z, 1, 0, Ops.op(Ops.CALL, 2));
        Ops.code(z, 2, 0, Ops.op(Ops.CALL, 3));
        Ops.code(z, 3, 0, Ops.op(Ops.CALL, 4));
        Ops.code(z, 4, 0, Ops.op(Ops.CALL, 5));
        z.function(5, 1);
        fails("too few values before DEEP", z, Ops.STACK);
        SnapForge w = new SnapForge();
        Ops.code(w, 1, 0, Ops.op(Ops.GOTO, 0));
        Ops.code(w, 2, 1, Ops.op(Ops.GOTO, 0));
        int[] pop = Ops.op(Ops.POP);
        int[] fork = Ops.op(Ops.FORK, 1);
        int[] i = Ops.op(Ops.INT, 0);
        Ops.code(w, 0, 0, fork, pop, fork, pop, Ops.op(Ops.FORK, 2));
        w.start(0, 0, 0);
        fails("too few values before FULL", w, Ops.STACK);
        Ops.code(w, 0, 0, fork, pop, fork, pop, i, i, i, i, i, i, fork);
        w.start(0, 0, 0);
        fails("FULL before a seventh", w, Ops.FULL);
        SnapForge d = Ops.started(Ops.op(Ops.NULL), i, Ops.op(Ops.DIV));
        fails("MISFIT before ZERO", d, Ops.MISFIT);
        SnapForge h = six(Ops.op(Ops.HELD, 0));
        fails("NOTHING before a seventh", h, Ops.NOTHING);
    }

    private static void errorsGoDown() {
        SnapForge x = Ops.started(Ops.op(Ops.INT, 1), Ops.op(Ops.STORE, 2), Ops.op(Ops.INT, 5),
            Ops.op(Ops.CALL, 1), Ops.op(Ops.NOP), Ops.op(Ops.LOAD, 2), Ops.op(Ops.ADD), Ops.op(Ops.RETURN));
        Ops.code(x, 1, 0, Ops.op(Ops.INT, 77), Ops.op(Ops.CALL, 2));
        x.handle(1, 0, 1, 0);
        x.handle(1, 2, 30, 0);
        Ops.code(x, 2, 0, Ops.op(Ops.INT, 1), Ops.op(Ops.INT, 0), Ops.op(Ops.DIV));
        x.handle(0, 4, 30, 0);
        x.handle(0, 3, 4, 5);
        x.run(8);
        Checks.same("three frames", x.told(20), 3);
        x.run(1);
        Checks.same("in the lowest one", x.told(20), 1);
        Checks.same("at the handler", x.told(50), 5);
        Checks.same("with the error alone", x.told(40), 1);
        x.run(9);
        Checks.same("its locals stayed", x.value(0), 2);
        SnapForge y = Ops.started(Ops.op(Ops.NOP), Ops.op(Ops.GOTO, 3), Ops.op(Ops.RETURN));
        y.handle(0, 3, 4, 2);
        Checks.same("BEHIND has handlers, too", y.run(4), 0);
        Checks.same("as an int", y.value(0), Ops.BEHIND);
    }

    private static void returnOntoFullStack() {
        SnapForge x = six(Ops.op(Ops.CALL, 1));
        Ops.code(x, 1, 0, Ops.op(Ops.NULL), Ops.op(Ops.RETURN));
        x.handle(1, 0, 30, 0);
        x.add(0, Ops.NOP, 0, 0);
        x.add(0, Ops.RETURN, 0, 0);
        x.handle(0, 7, 30, 0);
        x.handle(0, 6, 7, 8);
        x.run(8);
        Checks.same("two frames", x.told(20), 2);
        x.run(1);
        Checks.same("the error is below", x.told(20), 1);
        Checks.same("at the place of the call", x.told(50), 8);
        x.run(1);
        Checks.same("error 6", x.value(0), Ops.STACK);
    }

    private static void thrown() {
        int[][] due = {{0, 16}, {1, 17}, {15, 31}, {16, 16}, {-1, 31}, {0x7ffffff5, 21}};
        for (int[] d : due) {
            SnapForge x = Ops.started(Ops.op(Ops.INT, d[0]), Ops.op(Ops.THROW));
            fails("THROW " + d[0], x, d[1]);
        }
    }

    private static void forks() {
        SnapForge x = Ops.started(Ops.op(Ops.INT, 5), Ops.op(Ops.INT, 6), Ops.op(Ops.FORK, 3),
            Ops.op(Ops.RETURN));
        Ops.code(x, 3, 2, Ops.op(Ops.LOAD, 0), Ops.op(Ops.LOAD, 1), Ops.op(Ops.SUB), Ops.op(Ops.RETURN));
        Checks.same("both end", x.run(300), 0);
        Checks.same("two threads", x.told(0), 2);
        Checks.same("its number", x.value(0), 1);
        Checks.same("its arguments", x.value(1), -1);
        SnapForge y = Ops.started(Ops.op(Ops.FORK, 1), Ops.op(Ops.FORK, 1), Ops.op(Ops.FORK, 1));
        Ops.code(y, 1, 0, Ops.op(Ops.NULL), Ops.op(Ops.RETURN));
        y.run(300);
        Checks.same("three at most, ended ones too", y.told(30), Ops.FULL);
        Checks.same("three threads", y.told(0), 3);
    }

    private static void turns() {
        SnapForge x = Ops.started(Ops.op(Ops.FORK, 1), Ops.op(Ops.FORK, 2), Ops.op(Ops.GOTO, 2));
        Ops.code(x, 1, 0, Ops.op(Ops.NOP), Ops.op(Ops.YIELD), Ops.op(Ops.GOTO, 0));
        Ops.code(x, 2, 0, Ops.op(Ops.NOP), Ops.op(Ops.NOP), Ops.op(Ops.NULL), Ops.op(Ops.RETURN));
        int[][] due = {{0, 1}, {0, 2}, {0, 3}, {1, 0}, {1, 1}, {2, 0}, {2, 1}, {2, 2}, {2, 3}, {0, 0},
            {0, 1}, {0, 2}, {0, 3}, {1, 0}, {1, 1}, {1, 2}, {0, 0}};
        for (int i = 0; i < due.length; i++) {
            x.run(1);
            Checks.same("turn after " + (i + 1), x.told(1), due[i][0]);
            Checks.same("done after " + (i + 1), x.told(2), due[i][1]);
        }
        SnapForge y = Ops.started(Ops.op(Ops.YIELD), Ops.op(Ops.NOP), Ops.op(Ops.POP));
        y.run(1);
        Checks.same("its own turn again", y.told(1), 0);
        Checks.same("with none done", y.told(2), 0);
        y.run(1);
        Checks.same("one done", y.told(2), 1);
        y.run(1);
        Checks.same("none runs: the turn stays", y.told(1), 0);
        Checks.same("none runs: none done", y.told(2), 0);
    }

    private static void collection() {
        SnapForge x = Ops.started(Ops.op(Ops.NEW), Ops.op(Ops.STORE, 0), Ops.op(Ops.GOTO, 0));
        x.run(70);
        Checks.same("24 counted", x.told(3), 24);
        x.run(2);
        Checks.same("nothing looked for before the next", x.told(3), 24);
        x.run(1);
        Checks.same("one stays, one comes", x.told(3), 2);
        sameRecordStays();
        SnapForge y = Ops.started(Ops.op(Ops.LOAD, 0), Ops.op(Ops.CLOSE, 1, 1), Ops.op(Ops.STORE, 0),
            Ops.op(Ops.GOTO, 0));
        y.run(96);
        Checks.same("a chain of 24", y.told(3), 24);
        fails("a chain of 25", y, Ops.FULL);
        Checks.same("24 are counted still", y.told(3), 24);
        SnapForge z = Ops.started(Ops.op(Ops.LOAD, 0), Ops.op(Ops.CLOSE, 1, 1), Ops.op(Ops.STORE, 0),
            Ops.op(Ops.GOTO, 0), Ops.op(Ops.NULL), Ops.op(Ops.STORE, 0), Ops.op(Ops.NEW));
        z.handle(0, 1, 2, 4);
        z.run(98);
        Checks.same("the error is handled", z.told(50), 4);
        z.run(3);
        Checks.same("all are gone but the new one", z.told(3), 1);
    }

    /** Local 0 keeps its first record through many searches; new ones have null fields. */
    private static void sameRecordStays() {
        SnapForge x = Ops.started(Ops.op(Ops.NEW), Ops.op(Ops.DUP), Ops.op(Ops.STORE, 0),
            Ops.op(Ops.STORE, 1), Ops.op(Ops.NEW), Ops.op(Ops.DUP), Ops.op(Ops.GET, 0),
            Ops.op(Ops.NULL), Ops.op(Ops.SAME), Ops.op(Ops.SAY), Ops.op(Ops.LOAD, 0), Ops.op(Ops.PUT, 0),
            Ops.op(Ops.LOAD, 0), Ops.op(Ops.LOAD, 1), Ops.op(Ops.SAME), Ops.op(Ops.IF, 4));
        for (int i = 0; i < 3; i++) {
            Checks.same("it goes on", x.run(300), 1);
        }
        Checks.same("many records", x.told(5) > 60 ? 1 : 0, 1);
        for (int k = 0; k < 40; k++) {
            Checks.same("a new record's field is null", x.said(k), 1);
        }
    }

    /** Objects that stay by each of the ways to find them. */
    private static void collectionKeeps() {
        SnapForge x = new SnapForge();
        Ops.code(x, 1, 0, Ops.op(Ops.NEW), Ops.op(Ops.RETURN));
        Ops.code(x, 2, 0, Ops.op(Ops.NEW), Ops.op(Ops.THROW));
        Ops.code(x, 3, 1, Ops.op(Ops.NEW), Ops.op(Ops.POP), Ops.op(Ops.NOP), Ops.op(Ops.GOTO, 0));
        Ops.code(x, 0, 0, Ops.op(Ops.FORK, 1), Ops.op(Ops.FORK, 2), Ops.op(Ops.NEW), Ops.op(Ops.STORE, 3),
            Ops.op(Ops.LOAD, 3), Ops.op(Ops.NEW), Ops.op(Ops.PUT, 2), Ops.op(Ops.NEW),
            Ops.op(Ops.NEW), Ops.op(Ops.NEW), Ops.op(Ops.CLOSE, 3, 1), Ops.op(Ops.APPLY));
        x.start(0, 0, 0);
        x.run(16);
        Checks.same("thread 1 ended with a record", x.told(11), 1);
        Checks.same("thread 2 failed", x.told(12), 2);
        Checks.same("thread 2 failed with", x.told(32), Ops.MISFIT);
        Checks.same("thread 0 in the closure", x.told(60), 3);
        // 1 ended with, 1 of the failed thread; local 3 and inside it, 2 on stacks or as the
        // argument, the held one and the closure: 8 are counted, 7 of them stay.
        Checks.same("so far", x.told(3), 8);
        x.run(4 * 16);
        Checks.same("full", x.told(3), 24);
        x.run(1);
        Checks.same("what stays and one more", x.told(3), 8);
    }

    private static void fullStackAfterSearch() {
        SnapForge x = new SnapForge();
        Ops.code(x, 0, 2, Ops.op(Ops.NEW), Ops.op(Ops.STORE, 0), Ops.op(Ops.LOAD, 1),
            Ops.op(Ops.INT, 1), Ops.op(Ops.ADD), Ops.op(Ops.DUP), Ops.op(Ops.STORE, 1),
            Ops.op(Ops.INT, 24), Ops.op(Ops.LESS), Ops.op(Ops.IF, 0),
            Ops.op(Ops.NULL), Ops.op(Ops.NULL), Ops.op(Ops.NULL), Ops.op(Ops.NULL), Ops.op(Ops.NULL),
            Ops.op(Ops.NULL), Ops.op(Ops.NEW));
        x.start(0, 0, 0);
        x.run(246);
        Checks.same("six values", x.told(40), 6);
        Checks.same("24 objects", x.told(3), 24);
        fails("a seventh value is tested behind FULL", x, Ops.STACK);
        Checks.same("the search was made, the record not", x.told(3), 1);
    }
}
