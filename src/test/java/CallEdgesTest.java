/** The boundary cases that promises 1 to 15 name, sentence by sentence. */
public final class CallEdgesTest {
    private static final int MIN = Integer.MIN_VALUE;
    private static final int MAX = Integer.MAX_VALUE;
    /** No function, and for other rows of numbers from 0 to 5 no member of them either. */
    private static final int[] NO_FUNCTION = {MIN, -1, 6, MAX};

    private CallEdgesTest() {
    }

    public static void main(String[] args) {
        newObjects();
        functions();
        instructions();
        handlers();
        starts();
        runs();
        saidNumbers();
        values();
        toldNumbers();
        snapshots();
        loads();
        wheres();
        images();
        patches();
        cuts();
        Checks.finish("CallEdgesTest");
    }

    /** All that can be seen of it; the image is that of now afterwards. */
    private static String all(SnapForge x) {
        StringBuilder s = new StringBuilder("where ").append(x.where()).append(", told");
        for (int what = 0; what < 70; what++) {
            if (what < 6 || what > 9 && what % 10 < 3) {
                s.append(' ').append(x.told(what));
            }
        }
        s.append(", said");
        for (int k = 0; k < Math.min(x.told(5), 40); k++) {
            s.append(' ').append(x.said(k));
        }
        x.snapshot();
        return s.append(", image").append(bytes(x)).toString();
    }

    private static String bytes(SnapForge x) {
        StringBuilder s = new StringBuilder();
        for (int k = 0; k < x.image(-1); k++) {
            s.append(' ').append(x.image(k));
        }
        return s.toString();
    }

    /** It runs in function 1 with two values on the stack, and has said 7. */
    private static SnapForge going() {
        SnapForge x = new SnapForge();
        Ops.write(x, 1, 2, "INT 7, SAY, LOAD 0, NEW, GOTO 4");
        x.handle(1, 0, 30, 4);
        x.start(1, 5, -6);
        x.run(6);
        return x;
    }

    private static void newObjects() {
        noCode();
        noArguments();
        nothingStarted();
        emptyImage();
    }

    private static void noCode() {
        Checks.about("A new object: No CODE");
        SnapForge x = new SnapForge();
        for (int f = 0; f < 6; f++) {
            x.start(f, 0, 0);
            Checks.same("run of function " + f, x.run(1), 0);
            Checks.same("its error", x.told(30), Ops.BEHIND);
        }
        x.snapshot();
        Checks.same("the code sum", x.image(3), 0);
        for (int f = 0; f < 6; f++) {
            Checks.same("the first instruction of " + f, x.add(f, Ops.NOP, 0, 0), 1);
            Checks.same("the first handler of " + f, x.handle(f, 0, 1, 0), 1);
        }
    }

    private static void noArguments() {
        Checks.about("A new object: FUNCTIONS taking no ARGUMENTS");
        SnapForge x = new SnapForge();
        for (int f = 0; f < 6; f++) {
            Checks.same("start of " + f, x.start(f, 1, 2), 0);
        }
        x.add(0, Ops.CALL, 5, 0);
        x.start(0, 1, 2);
        x.run(1);
        Checks.same("CALL takes nothing", x.told(20), 2);
    }

    private static void nothingStarted() {
        Checks.about("A new object: nothing started");
        SnapForge x = new SnapForge();
        Checks.early("run", () -> x.run(0));
        Checks.early("snapshot", x::snapshot);
        Checks.outside("said", () -> x.said(0));
        Checks.outside("value", () -> x.value(0));
        Checks.same("where", x.where(), -2);
    }

    private static void emptyImage() {
        Checks.about("A new object: an empty IMAGE");
        SnapForge x = new SnapForge();
        Checks.same("image -1", x.image(-1), 0);
        Checks.outside("image 0", () -> x.image(0));
        Checks.outside("patch behind the first", () -> x.patch(1, 0, false));
        Checks.bad("cut 1", () -> x.cut(1));
        Checks.same("cut 0", x.cut(0), 0);
        Checks.bad("load", x::load);
        Checks.same("where", x.where(), 0);
        Checks.same("the first one comes behind", x.patch(0, 0, false), -1);
    }

    private static void functions() {
        functionNumbers();
        withoutCode();
        framesStay();
    }

    private static void functionNumbers() {
        Checks.about("function: IllegalArgumentException if a number is not as said");
        SnapForge x = going();
        String before = all(x);
        for (int f : NO_FUNCTION) {
            Checks.bad("function " + f, () -> x.function(f, 1));
        }
        for (int n : new int[] {MIN, -1, 3, MAX}) {
            Checks.bad("arguments " + n, () -> x.function(1, n));
        }
        Checks.bad("both", () -> x.function(6, 3));
        Checks.same("all that was", all(x), before);
        Checks.same("its code is there", x.add(1, Ops.NOP, 0, 0), 6);
        Checks.same("its handlers", x.handle(1, 0, 1, 0), 2);
        Checks.same("its arguments", x.start(1, 0, 0), 2);
        for (int f = 0; f < 6; f += 5) {
            for (int n = 2; n >= 0; n--) {
                Checks.same("function " + f, x.function(f, n), n);
                Checks.same("start of " + f, x.start(f, 0, 0), n);
            }
        }
    }

    private static void withoutCode() {
        Checks.about("function: without CODE and HANDLERS");
        SnapForge x = new SnapForge();
        Ops.write(x, 5, 1, Ops.times(30, "NOP"));
        Ops.write(x, 4, 0, "NOP");
        for (int i = 0; i < 3; i++) {
            x.handle(5, 0, 30, 0);
            x.handle(4, 0, 30, 0);
        }
        Checks.same("function", x.function(5, 1), 1);
        x.start(5, 0, 0);
        Checks.same("no code, no handler of the place", x.run(1), 0);
        Checks.same("its error", x.told(30), Ops.BEHIND);
        Checks.same("room for 30", x.add(5, Ops.NOP, 0, 0), 1);
        Checks.same("room for 3", x.handle(5, 0, 1, 0), 1);
        Checks.same("another function has its code", x.add(4, Ops.NOP, 0, 0), 2);
        Checks.early("and its handlers", () -> x.handle(4, 0, 1, 0));
    }

    private static void framesStay() {
        Checks.about("function: FRAMES of it stay");
        SnapForge x = new SnapForge();
        Ops.write(x, 0, 0, "INT 1, CALL 2, ADD, RETURN");
        Ops.write(x, 2, 0, "INT 20, STORE 3, INT 3, NOP");
        x.start(0, 0, 0);
        x.run(5);
        x.function(2, 2);
        x.function(0, 1);
        Checks.same("frames", x.told(20), 2);
        Checks.same("values", x.told(40), 1);
        Checks.same("place", x.told(50), 3);
        Checks.same("function", x.told(60), 2);
        Ops.write(x, 2, 2, "NOP, NOP, NOP, LOAD 3, ADD, RETURN");
        Ops.write(x, 0, 1, "NOP, NOP, ADD, RETURN");
        Checks.same("they go on in other code", x.run(5), 0);
        Checks.same("with their locals and stacks", x.value(0), 24);
        SnapForge y = Ops.begun("NOP, NOP");
        y.run(2);
        y.function(0, 0);
        y.run(1);
        Checks.same("without code they are behind it", y.told(30), Ops.BEHIND);
    }

    private static void instructions() {
        addFunctions();
        operandsA();
        operandsB();
        operandsThatOpHasNot();
        thirtyInstructions();
        refusedInstructions();
    }

    private static void addFunctions() {
        Checks.about("add: IllegalArgumentException if f, op (0 to 27) .. is not as said");
        SnapForge x = new SnapForge();
        for (int f : NO_FUNCTION) {
            Checks.bad("f " + f, () -> x.add(f, Ops.NOP, 0, 0));
        }
        for (int op : new int[] {MIN, -1, 28, MAX}) {
            Checks.bad("op " + op, () -> x.add(0, op, 0, 0));
        }
        Checks.same("f 0, op 0", x.add(0, 0, 0, 0), 1);
        Checks.same("f 5, op 27", x.add(5, 27, 0, 0), 1);
        for (int op = 0; op < 28; op++) {
            Checks.same("op " + op, x.add(1, op, 0, 0), op + 1);
        }
    }

    private static void boundOfA(String words, int top, int... ops) {
        Checks.about("add: a (" + words + ")");
        for (int op : ops) {
            SnapForge x = new SnapForge();
            for (int a = 0; a <= top; a++) {
                Checks.same(Ops.name(op) + " " + a, x.add(0, op, a, 0), a + 1);
            }
            for (int a : new int[] {MIN, -1, top + 1, MAX}) {
                Checks.bad(Ops.name(op) + " " + a, () -> x.add(0, op, a, 0));
            }
        }
    }

    private static void boundOfB(String words, int top, int... ops) {
        Checks.about("add: b (" + words + ")");
        for (int op : ops) {
            SnapForge x = new SnapForge();
            for (int b = 0; b <= top; b++) {
                Checks.same(Ops.name(op) + " " + b, x.add(0, op, 0, b), b + 1);
            }
            x.function(0, 0);
            for (int b : new int[] {MIN, -1, top + 1, MAX}) {
                Checks.bad(Ops.name(op) + " " + b, () -> x.add(0, op, 0, b));
            }
        }
    }

    private static void operandsA() {
        boundOfA("0 to 3 for 4, 5", 3, Ops.LOAD, Ops.STORE);
        boundOfA("0 to 2 for 17, 18", 2, Ops.GET, Ops.PUT);
        boundOfA("0 to 5 for 19, 21, 26", 5, Ops.CLOSE, Ops.CALL, Ops.FORK);
        boundOfA("0, 1 for 20", 1, Ops.HELD);
        Checks.about("add: a (any int for 1, 2)");
        for (int a : new int[] {MIN, -1, 0, MAX}) {
            SnapForge x = Ops.begun("INT " + a + ", RETURN");
            x.run(2);
            Checks.same("INT", x.value(0), a);
            SnapForge y = Ops.begun("LONG " + a + " 0, RETURN");
            y.run(2);
            Checks.same("LONG", y.value(0), a * 4294967296L);
        }
    }

    private static void operandsB() {
        boundOfB("0 to 29 for 14, 15", 29, Ops.GOTO, Ops.IF);
        boundOfB("0 to 2 for 19", 2, Ops.CLOSE);
        Checks.about("add: b (any int for 2)");
        for (int b : new int[] {MIN, -1, 0, MAX}) {
            SnapForge x = Ops.begun("LONG 0 " + b + ", RETURN");
            x.run(2);
            Checks.same("LONG", x.value(0), b);
        }
    }

    private static void operandsThatOpHasNot() {
        Checks.about("add: a and b that op has not are 0 in their stead");
        for (int op = 0; op < 28; op++) {
            boolean hasA = op == 1 || op == 2 || op == 4 || op == 5 || op >= 17 && op <= 21 || op == 26;
            boolean hasB = op == 2 || op == 14 || op == 15 || op == 19;
            for (int other : new int[] {MIN, -1, 30, 77, MAX}) {
                SnapForge x = new SnapForge();
                Checks.same(Ops.name(op), x.add(0, op, hasA ? 0 : other, hasB ? 0 : other), 1);
                x.start(1, 0, 0);
                x.snapshot();
                Checks.same("the code sum of " + Ops.name(op) + " " + other, x.image(3), op);
            }
        }
    }

    private static void thirtyInstructions() {
        Checks.about("add: IllegalStateException with 30");
        SnapForge x = new SnapForge();
        for (int f = 0; f < 6; f++) {
            int full = f;
            for (int n = 1; n <= 30; n++) {
                Checks.same("instruction " + n + " of " + f, x.add(f, Ops.INT, n, 0), n);
            }
            Checks.early("one more of " + f, () -> x.add(full, Ops.NOP, 0, 0));
        }
        Checks.bad("a number that is not as said", () -> x.add(5, Ops.LOAD, 4, 0));
        x.start(4, 0, 0);
        x.snapshot();
        int before = x.image(3);
        Checks.early("and again", () -> x.add(0, Ops.INT, 99, 0));
        x.snapshot();
        Checks.same("the code sum stays", x.image(3), before);
    }

    private static void refusedInstructions() {
        Checks.about("add: a refused INSTRUCTION does not come");
        SnapForge x = going();
        String before = all(x);
        Checks.bad("f", () -> x.add(6, Ops.NOP, 0, 0));
        Checks.bad("op", () -> x.add(1, 28, 0, 0));
        Checks.bad("a", () -> x.add(1, Ops.CLOSE, 6, 0));
        Checks.bad("b", () -> x.add(1, Ops.CLOSE, 0, 3));
        Checks.same("all that was", all(x), before);
        Checks.same("how many", x.add(1, Ops.NOP, 0, 0), 6);
    }

    private static void handlers() {
        handlerNumbers();
        threeHandlers();
    }

    private static void handlerNumbers() {
        Checks.about("handle: IllegalArgumentException if f, from, at (0 to 29) or to (above from, up to 30) "
            + "is not as said");
        SnapForge x = new SnapForge();
        for (int f : NO_FUNCTION) {
            Checks.bad("f " + f, () -> x.handle(f, 0, 1, 0));
        }
        for (int from : new int[] {MIN, -1}) {
            Checks.bad("from " + from, () -> x.handle(0, from, 1, 0));
        }
        Checks.bad("from 30, to 30", () -> x.handle(0, 30, 30, 0));
        Checks.bad("from 30, to 31", () -> x.handle(0, 30, 31, 0));
        Checks.bad("from MAX", () -> x.handle(0, MAX, MIN, 0));
        for (int to : new int[] {MIN, -1, 0, 4, 5, 31, MAX}) {
            Checks.bad("from 5, to " + to, () -> x.handle(0, 5, to, 0));
        }
        for (int at : new int[] {MIN, -1, 30, MAX}) {
            Checks.bad("at " + at, () -> x.handle(0, 0, 1, at));
        }
        Checks.same("from 0, to 1, at 0", x.handle(0, 0, 1, 0), 1);
        Checks.same("from 0, to 30, at 29", x.handle(0, 0, 30, 29), 2);
        Checks.same("from 29, to 30", x.handle(0, 29, 30, 15), 3);
        Checks.same("f 5", x.handle(5, 5, 6, 7), 1);
    }

    private static void threeHandlers() {
        Checks.about("handle: IllegalStateException with 3");
        SnapForge x = new SnapForge();
        for (int f = 0; f < 6; f++) {
            int full = f;
            for (int n = 1; n <= 3; n++) {
                Checks.same("handler " + n + " of " + f, x.handle(f, 0, 1, 0), n);
            }
            Checks.early("one more of " + f, () -> x.handle(full, 0, 1, 0));
        }
        Checks.bad("a number that is not as said", () -> x.handle(0, 0, 0, 0));
        SnapForge y = Ops.begun("POP, NOP, NOP, NOP");
        for (int n = 0; n < 3; n++) {
            y.handle(0, 20, 30, 1);
        }
        Checks.early("a fourth one", () -> y.handle(0, 0, 30, 1));
        Checks.same("it is not there", y.run(1), 0);
        Checks.same("so the error is not handled", y.told(30), Ops.STACK);
    }

    private static void starts() {
        startNumbers();
        asManyAsItTakes();
        nothingOfBefore();
        startLeavesTheImage();
    }

    private static void startNumbers() {
        Checks.about("start: IllegalArgumentException if f is not 0 to 5");
        SnapForge x = going();
        String before = all(x);
        for (int f : NO_FUNCTION) {
            Checks.bad("start " + f, () -> x.start(f, 1, 2));
        }
        Checks.same("all that was", all(x), before);
        for (int f = 0; f < 6; f++) {
            Checks.same("start " + f, x.start(f, 0, 0), f == 1 ? 2 : 0);
            Checks.same("its function", x.told(60), f);
        }
        SnapForge y = new SnapForge();
        Checks.bad("of a new object", () -> y.start(-1, 0, 0));
        Checks.early("nothing is started by it", () -> y.run(1));
    }

    private static void asManyAsItTakes() {
        Checks.about("start: x and y as INTS (as many as it takes)");
        String[] due = {"0 0 0 0", "1 0 0 0 128 0 0 0", "1 0 0 0 128 1 255 255 255 127 0 0"};
        SnapForge x = new SnapForge();
        for (int n = 2; n >= 0; n--) {
            x.function(3, n);
            Checks.same("start", x.start(3, MIN, MAX), n);
            x.snapshot();
            String image = bytes(x);
            String begin = " 83 78 1 0 0 0 1 0 1 3 0 0 " + due[n] + " 0 0 ";
            Checks.same("the frame", image.substring(0, begin.length()), begin);
        }
    }

    private static void nothingOfBefore() {
        Checks.about("start: THREAD 0 alone .. no OBJECTS counted, nothing SAID, no INSTRUCTIONS done");
        SnapForge x = new SnapForge();
        Ops.write(x, 0, 0, "FORK 1, FORK 1, SAY, NEW, CALL 1");
        Ops.write(x, 1, 0, "NEW, NEW, GOTO 2");
        x.start(0, 0, 0);
        x.run(18);
        int[] used = {3, 1, 2, 7, 18, 1};
        for (int what = 0; what < 6; what++) {
            Checks.same("told before " + what, x.told(what), used[what]);
        }
        x.start(2, 0, 0);
        int[] due = {1, 0, 0, 0, 0, 0};
        for (int what = 0; what < 6; what++) {
            Checks.same("told " + what, x.told(what), due[what]);
        }
        Checks.same("it runs", x.told(10), 0);
        Checks.same("one frame", x.told(20), 1);
        Checks.same("no error", x.told(30), 0);
        Checks.same("an empty stack", x.told(40), 0);
        Checks.same("place 0", x.told(50), 0);
        Checks.same("no thread 1", x.told(11), -1);
        Checks.same("no thread 2", x.told(12), -1);
        Checks.outside("said", () -> x.said(0));
        Checks.outside("value of thread 1", () -> x.value(1));
        x.run(1);
        Checks.same("it failed", x.told(30), Ops.BEHIND);
        x.start(2, 0, 0);
        Checks.same("it runs again", x.told(10), 0);
        Checks.same("without an error", x.told(30), 0);
    }

    private static void startLeavesTheImage() {
        Checks.about("start: THE IMAGE is that of the latest snapshot, where of the latest load");
        SnapForge x = going();
        x.snapshot();
        x.patch(2, 9, false);
        String before = bytes(x);
        Checks.bad("load", x::load);
        x.start(0, 0, 0);
        Checks.same("the image", bytes(x), before);
        Checks.same("where", x.where(), 2);
    }

    private static void runs() {
        runNumbers();
        atMostLimit();
        nothingToRun();
    }

    private static void runNumbers() {
        Checks.about("run: limit (0 to 300); IllegalArgumentException for another number");
        SnapForge x = Ops.begun("GOTO 0");
        for (int limit : new int[] {MIN, -1, 301, MAX}) {
            Checks.bad("run " + limit, () -> x.run(limit));
        }
        Checks.same("none was done", x.told(4), 0);
        Checks.same("run 0", x.run(0), 1);
        Checks.same("none was done by it", x.told(4), 0);
        Checks.same("run 1", x.run(1), 1);
        Checks.same("one was done", x.told(4), 1);
        Checks.same("run 300", x.run(300), 1);
        Checks.same("300 more", x.told(4), 301);
    }

    private static void atMostLimit() {
        Checks.about("run: At most limit INSTRUCTIONS more are done: 1 if some THREAD RUNS then, else 0");
        SnapForge x = Ops.begun("FORK 1, RETURN");
        Ops.write(x, 1, 0, "NOP, NOP, POP");
        Checks.same("both run", x.run(1), 1);
        Checks.same("thread 1 runs alone", x.run(1), 1);
        Checks.same("still", x.run(2), 1);
        Checks.same("none runs", x.run(1), 0);
        Checks.same("none runs, none is asked for", x.run(0), 0);
        Checks.same("none runs, many are asked for", x.run(300), 0);
        Checks.same("five were done", x.told(4), 5);
        SnapForge y = Ops.begun("NOP, NULL, RETURN");
        Checks.same("more than there are", y.run(4), 0);
        Checks.same("three were done", y.told(4), 3);
    }

    private static void nothingToRun() {
        Checks.about("run: IllegalStateException if nothing was started or loaded");
        SnapForge x = new SnapForge();
        x.add(0, Ops.NOP, 0, 0);
        for (int limit : new int[] {0, 1, 300}) {
            Checks.early("run " + limit, () -> x.run(limit));
        }
        for (int limit : new int[] {-1, 301}) {
            Checks.bad("run " + limit, () -> x.run(limit));
        }
        Checks.bad("an empty image", x::load);
        Checks.early("a refused load loads nothing", () -> x.run(0));
        lay(x, 83, 78, 1, 0, 0, 0, 1, 2, 7, 0, 172);
        x.load();
        Checks.same("a load is enough", x.run(0), 0);
        SnapForge y = new SnapForge();
        y.start(0, 0, 0);
        Checks.same("a start is enough", y.run(0), 1);
    }

    private static void lay(SnapForge x, int... bytes) {
        x.cut(0);
        for (int b : bytes) {
            x.patch(x.image(-1), b, false);
        }
    }

    private static void saidNumbers() {
        firstForty();
        noneSuch();
    }

    private static void firstForty() {
        Checks.about("said: from 0; the first 40 are kept");
        SnapForge x = new SnapForge();
        Ops.write(x, 0, 1, "LOAD 0, SAY, LOAD 0, INT 1, ADD, STORE 0, GOTO 0");
        x.start(0, 1000, 0);
        x.run(39 * 7 + 1);
        Checks.outside("before the fortieth", () -> x.said(39));
        x.run(1);
        Checks.same("the fortieth", x.said(39), 1039);
        x.run(14);
        Checks.same("42 were said", x.told(5), 42);
        for (int k = 0; k < 40; k++) {
            Checks.same("said " + k, x.said(k), 1000 + k);
        }
        Checks.outside("the 41st", () -> x.said(40));
        Checks.outside("the 42nd", () -> x.said(41));
    }

    private static void noneSuch() {
        Checks.about("said: IndexOutOfBoundsException if there is none");
        SnapForge x = Ops.begun("LONG -2147483648 0, SAY, INT -1, SAY, GOTO 4");
        Checks.outside("none yet", () -> x.said(0));
        x.run(2);
        Checks.same("said 0", x.said(0), Long.MIN_VALUE);
        Checks.outside("said 1, too early", () -> x.said(1));
        x.run(2);
        Checks.same("said 1", x.said(1), -1);
        for (int k : new int[] {MIN, -1, 2, 40, MAX}) {
            Checks.outside("said " + k, () -> x.said(k));
        }
        x.start(0, 0, 0);
        Checks.outside("none after a start", () -> x.said(0));
    }

    private static void values() {
        noThread();
        notEnded();
        noNumber();
    }

    private static void noThread() {
        Checks.about("value: IndexOutOfBoundsException if there is no THREAD t");
        SnapForge x = Ops.begun("FORK 1, FORK 1, LONG -2147483648 0, RETURN");
        Ops.write(x, 1, 0, "INT -5, RETURN");
        for (int threads = 1; threads <= 3; threads++) {
            for (int t = threads; t <= 3; t++) {
                int none = t;
                Checks.outside("value " + t + " of " + threads, () -> x.value(none));
            }
            x.run(1);
        }
        x.run(300);
        Checks.same("value 0", x.value(0), Long.MIN_VALUE);
        Checks.same("value 1", x.value(1), -5);
        Checks.same("value 2", x.value(2), -5);
        for (int t : new int[] {MIN, -1, 3, MAX}) {
            Checks.outside("value " + t, () -> x.value(t));
        }
    }

    private static void notEnded() {
        Checks.about("value: IllegalStateException if it is not ENDED");
        SnapForge x = Ops.begun("FORK 1, RETURN");
        Ops.write(x, 1, 0, "NOP, POP");
        Checks.early("it runs", () -> x.value(0));
        x.run(2);
        Checks.same("it ended", x.value(0), 1);
        Checks.early("the other one runs", () -> x.value(1));
        x.run(2);
        Checks.early("it failed", () -> x.value(1));
    }

    private static void noNumber() {
        Checks.about("value: UnsupportedOperationException if its VALUE is no number");
        for (String made : new String[] {"NULL", "NEW", "CLOSE 0 0"}) {
            SnapForge x = Ops.begun(made + ", RETURN");
            x.run(2);
            Checks.unsupported(made, () -> x.value(0));
        }
        for (String made : new String[] {"INT 0", "LONG 0 0"}) {
            SnapForge x = Ops.begun(made + ", RETURN");
            x.run(2);
            Checks.same(made, x.value(0), 0);
        }
    }

    private static void toldNumbers() {
        toldOfOthers();
        toldOfNothing();
        toldOfNoThread();
        toldOfNoRunner();
        toldSinceStart();
        toldWithoutError();
    }

    private static void toldOfOthers() {
        Checks.about("told: IllegalArgumentException for others (t is 0 to 2)");
        SnapForge x = going();
        SnapForge y = new SnapForge();
        for (int what = -12; what <= 110; what++) {
            int other = what;
            if (what >= 0 && what < 6 || what >= 10 && what < 70 && what % 10 < 3) {
                continue;
            }
            Checks.bad("told " + what, () -> x.told(other));
            Checks.bad("told " + what + " of a new object", () -> y.told(other));
        }
        for (int what : new int[] {MIN, MIN + 8, MAX, MAX - 7, 256, 65536, 1000010}) {
            Checks.bad("told " + what, () -> x.told(what));
        }
    }

    private static void toldOfNothing() {
        Checks.about("told: All is 0, or -1, if nothing was started");
        SnapForge x = new SnapForge();
        for (int what = 0; what < 6; what++) {
            Checks.same("told " + what, x.told(what), 0);
        }
        for (int what = 10; what < 70; what += 10) {
            for (int t = 0; t < 3; t++) {
                Checks.same("told " + (what + t), x.told(what + t), -1);
            }
        }
    }

    private static void toldOfNoThread() {
        Checks.about("told: -1 for all of these without THREAD t");
        SnapForge x = Ops.begun("FORK 0, POP, GOTO 2");
        for (int threads = 1; threads <= 3; threads++) {
            Checks.same("threads", x.told(0), threads);
            for (int what = 10; what < 70; what += 10) {
                for (int t = 0; t < 3; t++) {
                    boolean isThere = x.told(what + t) != -1;
                    Checks.same("told " + (what + t) + " of " + threads, isThere ? 1 : 0, t < threads ? 1 : 0);
                }
            }
            x.run(threads == 1 ? 1 : 4);
        }
    }

    private static void toldOfNoRunner() {
        Checks.about("told: -1 .. from 40 on, if it does not RUN");
        SnapForge x = Ops.begun("FORK 1, FORK 2, NOP, NOP, GOTO 2");
        Ops.write(x, 1, 0, "INT 9, RETURN");
        Ops.write(x, 2, 0, "INT 9, THROW");
        x.run(8);
        int[][] due = {{0, 1, 2}, {1, 0, 0}, {0, 0, 25}, {2, -1, -1}, {4, -1, -1}, {0, -1, -1}};
        for (int i = 0; i < 6; i++) {
            for (int t = 0; t < 3; t++) {
                int what = 10 * (i + 1) + t;
                Checks.same("told " + what, x.told(what), due[i][t]);
            }
        }
    }

    private static void toldSinceStart() {
        Checks.about("told: INSTRUCTIONS done since start (load does not change that)");
        SnapForge x = Ops.begun("NOP, NOP, GOTO 0");
        x.run(3);
        x.snapshot();
        x.run(7);
        Checks.same("before the load", x.told(4), 10);
        x.load();
        Checks.same("after it", x.told(4), 10);
        x.run(1);
        Checks.same("one more", x.told(4), 11);
        x.patch(0, 0, false);
        Checks.bad("a load with a fault", x::load);
        Checks.same("after that", x.told(4), 11);
        x.start(0, 0, 0);
        Checks.same("after a start", x.told(4), 0);
    }

    private static void toldWithoutError() {
        Checks.about("told: its ERROR (0 without)");
        SnapForge x = Ops.begun("POP, THROW");
        x.handle(0, 0, 1, 1);
        Checks.same("it runs", x.told(30), 0);
        x.run(1);
        Checks.same("a handled error is not its own", x.told(30), 0);
        x.run(1);
        Checks.same("it failed", x.told(30), 16 + Ops.STACK);
        SnapForge y = Ops.begun("NULL, RETURN");
        y.run(2);
        Checks.same("it ended", y.told(30), 0);
    }

    private static void snapshots() {
        Checks.about("snapshot: THE IMAGE becomes that of now: how many BYTES");
        SnapForge x = Ops.begun("LONG 1 1, LONG 1 1, POP, RETURN");
        x.run(2);
        Checks.same("a longer one", x.snapshot(), 17 + 18 + 2);
        Checks.same("how many there are", x.image(-1), 17 + 18 + 2);
        x.run(2);
        x.patch(x.image(-1), 1, false);
        Checks.same("a shorter one", x.snapshot(), 19);
        Checks.same("has nothing of the longer one", x.image(-1), 19);
        Checks.outside("behind it", () -> x.image(19));
        Checks.about("snapshot: IllegalStateException if nothing was started or loaded");
        SnapForge y = new SnapForge();
        Checks.early("a new object", y::snapshot);
        lay(y, 83, 78, 1, 0, 0, 0, 1, 2, 8, 0, 173);
        Checks.bad("a load with a fault", y::load);
        Checks.early("loads nothing", y::snapshot);
        Checks.same("the image is as it was laid", y.image(-1), 11);
        lay(y, 83, 78, 1, 0, 0, 0, 1, 2, 7, 0, 172);
        y.load();
        Checks.same("a load is enough", y.snapshot(), 11);
        SnapForge z = Ops.begun("");
        Checks.same("a start is enough", z.snapshot(), 19);
    }

    private static void loads() {
        loadAnswers();
        saidStays();
        nothingChanges();
        nothingChangesAfterALoad();
        loadLeavesTheImage();
    }

    private static void loadAnswers() {
        Checks.about("load: THREADS, OBJECTS, the turn become as THE IMAGE says: how many THREADS");
        SnapForge x = Ops.begun("FORK 1, NEW, FORK 1, NEW, GOTO 4");
        Ops.write(x, 1, 0, "GOTO 0");
        int[] steps = {0, 1, 6};
        for (int threads = 1; threads <= 3; threads++) {
            x.start(0, 0, 0);
            x.run(steps[threads - 1]);
            x.snapshot();
            String told = toldOfAll(x);
            x.run(50);
            Checks.same("load", x.load(), threads);
            Checks.same("all that is told", toldOfAll(x), told);
        }
    }

    /** But for what is done since the start. */
    private static String toldOfAll(SnapForge x) {
        StringBuilder s = new StringBuilder();
        for (int what = 0; what < 70; what++) {
            if (what < 4 || what > 9 && what % 10 < 3) {
                s.append(' ').append(x.told(what));
            }
        }
        return s.toString();
    }

    private static void saidStays() {
        Checks.about("load: what was SAID stays");
        SnapForge x = Ops.begun("INT 3, SAY, INT 4, SAY, GOTO 4");
        x.run(2);
        x.snapshot();
        x.run(2);
        x.load();
        Checks.same("how many", x.told(5), 2);
        Checks.same("the one before the image", x.said(0), 3);
        Checks.same("the one behind it", x.said(1), 4);
        x.run(2);
        Checks.same("once more", x.said(2), 4);
        Checks.same("how many", x.told(5), 3);
    }

    private static void nothingChanges() {
        Checks.about("load: IllegalArgumentException with a FAULT; nothing changes then but where");
        SnapForge x = going();
        String before = all(x).replace("where -2", "");
        int size = x.image(-1);
        x.patch(size - 1, x.image(size - 1) ^ 128, false);
        String image = bytes(x);
        Checks.bad("load", x::load);
        Checks.same("the image", bytes(x), image);
        Checks.same("all that was", all(x).replace("where " + (size - 1), ""), before);
        Checks.about("load: UnsupportedOperationException if it is UNKNOWN; nothing changes then but where");
        SnapForge y = going();
        String whole = all(y).replace("where -2", "");
        y.patch(3, y.image(3) ^ 1, true);
        image = bytes(y);
        Checks.unsupported("load", y::load);
        Checks.same("the image", bytes(y), image);
        Checks.same("all that was", all(y).replace("where 3", ""), whole);
        Checks.about("load: nothing changes then but where, and it goes on");
        SnapForge z = going();
        Checks.same("as one that was never spoilt", z.run(9), x.run(9));
        Checks.same("in all", all(x).replace("where " + (size - 1), "where -2"), all(z));
    }

    private static void nothingChangesAfterALoad() {
        Checks.about("load: nothing changes then but where, after a load that went well, too");
        SnapForge x = going();
        x.snapshot();
        x.load();
        String before = all(x);
        int last = x.image(-1) - 1;
        x.patch(4, 2, false);
        x.patch(6, 2, false);
        Checks.bad("load", x::load);
        int fault = x.where();
        Checks.same("all that was", all(x).replace("where " + fault, "where -2"), before);
        x.patch(10, 0, false);
        Checks.bad("load of another place with a wrong sum", x::load);
        Checks.same("where", x.where(), last);
        Checks.same("all that was", all(x).replace("where " + last, "where -2"), before);
    }

    private static void loadLeavesTheImage() {
        Checks.about("load: THE IMAGE stays and can be read again");
        SnapForge x = going();
        x.snapshot();
        String image = bytes(x);
        for (int i = 0; i < 3; i++) {
            Checks.same("load", x.load(), 1);
            Checks.same("the image", bytes(x), image);
            x.run(5);
        }
    }

    private static void wheres() {
        Checks.about("where: -2 if it had none, or there was none");
        SnapForge x = going();
        Checks.same("there was none", x.where(), -2);
        x.snapshot();
        Checks.same("snapshot is none", x.where(), -2);
        x.load();
        Checks.same("it had none", x.where(), -2);
        Checks.about("where: The place of the FAULT of the latest load");
        x.patch(0, 82, true);
        Checks.same("patch is none", x.where(), -2);
        Checks.bad("the first byte", x::load);
        Checks.same("the first place", x.where(), 0);
        x.snapshot();
        Checks.same("snapshot leaves it", x.where(), 0);
        int size = x.image(-1);
        x.cut(size - 1);
        Checks.same("cut leaves it", x.where(), 0);
        Checks.bad("the sum is missing", x::load);
        Checks.same("the place behind the last one", x.where(), size - 1);
        x.start(0, 0, 0);
        x.run(1);
        Checks.same("start and run leave it", x.where(), size - 1);
        Checks.about("where: 3 for UNKNOWN");
        x.snapshot();
        x.patch(3, x.image(3) ^ 255, true);
        Checks.unsupported("another program", x::load);
        Checks.same("the place", x.where(), 3);
        x.snapshot();
        x.load();
        Checks.about("where: -2 if it had none");
        Checks.same("after faults", x.where(), -2);
    }

    private static void images() {
        Checks.about("image: with k = -1 how many");
        SnapForge x = Ops.begun("INT -1, GOTO 1");
        Checks.same("none", x.image(-1), 0);
        x.run(1);
        x.snapshot();
        int size = 7 + 2 + 2 + 1 + 4 + 1 + 5 + 1 + 1;
        Checks.same("as many as snapshot says", x.image(-1), size);
        Checks.about("image: BYTE k of THE IMAGE");
        Checks.same("the first", x.image(0), 83);
        Checks.same("0 to 255, without a sign", x.image(18), 255);
        int sum = 0;
        for (int k = 0; k < size - 1; k++) {
            sum += x.image(k);
        }
        Checks.same("the last", x.image(size - 1), sum & 255);
        Checks.about("image: IndexOutOfBoundsException for another k");
        for (int k : new int[] {MIN, -2, size, size + 1, 2399, 2400, MAX}) {
            Checks.outside("image " + k, () -> x.image(k));
        }
    }

    private static void patches() {
        patchedBytes();
        patchedPlaces();
        patchedSums();
        fullImage();
        refusedPatches();
    }

    private static void patchedBytes() {
        Checks.about("patch: b (0 to 255); IllegalArgumentException for another b");
        SnapForge x = new SnapForge();
        Checks.same("0", x.patch(0, 0, false), -1);
        Checks.same("255", x.patch(0, 255, false), 0);
        Checks.same("what it was", x.patch(0, 7, false), 255);
        for (int b : new int[] {MIN, -1, 256, MAX}) {
            Checks.bad("b " + b, () -> x.patch(0, b, false));
            Checks.bad("b " + b + " behind", () -> x.patch(1, b, true));
            Checks.bad("b " + b + " at a wrong place", () -> x.patch(-1, b, false));
        }
    }

    private static void patchedPlaces() {
        Checks.about("patch: with k as many as there are it comes behind: what it was (-1)");
        SnapForge x = new SnapForge();
        for (int n = 0; n < 9; n++) {
            Checks.same("behind " + n, x.patch(n, 10 + n, false), -1);
            Checks.same("how many", x.image(-1), n + 1);
        }
        for (int n = 0; n < 9; n++) {
            Checks.same("what it was", x.patch(n, 20 + n, false), 10 + n);
            Checks.same("what it is", x.image(n), 20 + n);
        }
        Checks.same("as many as before", x.image(-1), 9);
        Checks.about("patch: IndexOutOfBoundsException for another k");
        for (int k : new int[] {MIN, -1, 10, 2400, MAX}) {
            Checks.outside("k " + k, () -> x.patch(k, 1, false));
        }
        x.cut(3);
        Checks.outside("a place that went", () -> x.patch(4, 1, false));
        Checks.same("behind what is left", x.patch(3, 99, false), -1);
        Checks.same("one came", x.image(-1), 4);
    }

    private static void patchedSums() {
        Checks.about("patch: the last BYTE then becomes as much more as this one did (lowest 8 bits)");
        SnapForge x = new SnapForge();
        lay(x, 0, 255, 255);
        Checks.same("255 more", x.patch(0, 255, true), 0);
        Checks.same("wraps", x.image(2), 254);
        Checks.same("255 less", x.patch(1, 0, true), 255);
        Checks.same("wraps back", x.image(2), 255);
        Checks.same("one less", x.patch(0, 254, true), 255);
        Checks.same("one less", x.image(2), 254);
        Checks.same("no more", x.patch(0, 254, true), 254);
        Checks.same("no more", x.image(2), 254);
        Checks.same("without sum", x.patch(0, 1, false), 254);
        Checks.same("it stays", x.image(2), 254);
        Checks.same("nothing else changes", x.image(1), 0);
        Checks.about("patch: but not if it is this one");
        Checks.same("the last", x.patch(2, 100, true), 254);
        Checks.same("becomes b alone", x.image(2), 100);
        SnapForge y = new SnapForge();
        y.patch(0, 9, true);
        Checks.same("the last one of one", y.patch(0, 12, true), 9);
        Checks.same("becomes b alone", y.image(0), 12);
        Checks.about("patch: or comes behind");
        Checks.same("one more", x.patch(3, 5, true), -1);
        Checks.same("it is b", x.image(3), 5);
        Checks.same("the one before it stays", x.image(2), 100);
        Checks.same("it is the last one now", x.patch(2, 103, true), 100);
        Checks.same("so it becomes more", x.image(3), 8);
    }

    /** An object with so many bytes, after a call for each of them above 1929 and 37 more. */
    private static SnapForge withBytes(int count) {
        SnapForge x = Ops.full();
        int size = x.snapshot();
        Checks.same("the image of now", size, 1929);
        for (int n = size; n < count; n++) {
            x.patch(n, n & 127, true);
        }
        return x;
    }

    /** With 2400 bytes 508 calls have been made: there are four more for each object. */
    private static void fullImage() {
        Checks.about("patch: IndexOutOfBoundsException .. if there are 2400");
        SnapForge one = withBytes(2399);
        Checks.same("one of 2399", one.patch(7, 9, false), 0);
        Checks.same("the 2400th", one.patch(2399, 255, false), -1);
        Checks.outside("one more", () -> one.patch(2400, 1, false));
        Checks.outside("the last one", () -> one.patch(2399, 1, false));
        SnapForge two = withBytes(2400);
        Checks.outside("the first one", () -> two.patch(0, 1, true));
        Checks.same("it stays", two.image(0), 83);
        Checks.same("how many", two.image(-1), 2400);
        Checks.same("the last stays", two.image(2399), 2399 & 127);
        SnapForge three = withBytes(2400);
        for (int k : new int[] {-1, 7, 2398, 2401}) {
            Checks.outside("place " + k, () -> three.patch(k, 1, true));
        }
        SnapForge four = withBytes(2400);
        Checks.bad("b", () -> four.patch(0, 256, false));
        Checks.outside("no byte behind it", () -> four.image(2400));
        Checks.same("one goes", four.cut(2399), 1);
        Checks.same("then they can be changed again", four.patch(0, 5, true), 83);
    }

    private static void refusedPatches() {
        Checks.about("patch: a refused call changes nothing");
        SnapForge x = new SnapForge();
        lay(x, 1, 2, 3);
        Checks.bad("b", () -> x.patch(0, 256, true));
        Checks.bad("b behind", () -> x.patch(3, -1, true));
        Checks.outside("k", () -> x.patch(4, 0, true));
        Checks.outside("k below", () -> x.patch(-1, 0, true));
        Checks.same("the bytes", bytes(x), " 1 2 3");
    }

    private static void cuts() {
        Checks.about("cut: THE IMAGE has its first n BYTES alone: how many went");
        SnapForge x = new SnapForge();
        lay(x, 1, 2, 3, 4);
        Checks.same("none goes", x.cut(4), 0);
        Checks.same("one goes", x.cut(3), 1);
        Checks.same("the first ones", bytes(x), " 1 2 3");
        Checks.outside("it went", () -> x.image(3));
        Checks.about("cut: IllegalArgumentException if n is not 0 to their number");
        for (int n : new int[] {MIN, -1, 4, 2400, MAX}) {
            Checks.bad("cut " + n, () -> x.cut(n));
        }
        Checks.same("nothing went", bytes(x), " 1 2 3");
        Checks.same("all go", x.cut(0), 3);
        Checks.same("nothing of nothing", x.cut(0), 0);
        Checks.bad("more than nothing", () -> x.cut(1));
        Checks.same("an empty image", x.image(-1), 0);
    }
}
