/** The boundary cases that the document names for errors and handlers. */
public final class ErrorEdgesTest {
    private ErrorEdgesTest() {
    }

    public static void main(String[] args) {
        fewerValues();
        fewerBeforeDeepAndFull();
        fewerArgumentsOfApply();
        deepBehindBoth();
        fullBehindBoth();
        seventhValue();
        seventhValueOfClosures();
        sixAreEnough();
        seventhIsTestedLast();
        deep();
        fullOfThreads();
        behind();
        fromAndTo();
        firstHandler();
        errorAlone();
        placeAt();
        handlersOfTheFunctionAlone();
        placeOfTheCall();
        downThroughAllFrames();
        failed();
        returnOfASeventh();
        Checks.finish("ErrorEdgesTest");
    }

    /** After so many instructions: 0 if there was no error. */
    private static int errorAfter(int steps, SnapForge x) {
        x.run(steps);
        return x.told(30);
    }

    /** Function 4 with this code is the fifth frame; function 5 takes so many arguments. */
    private static SnapForge inFifthFrame(String code, int arguments) {
        SnapForge x = new SnapForge();
        for (int f = 0; f < 4; f++) {
            x.add(f, Ops.CALL, f + 1, 0);
        }
        Ops.write(x, 4, 0, code);
        x.function(5, arguments);
        x.start(0, 0, 0);
        x.run(4);
        Checks.same("five frames", x.told(20), 5);
        return x;
    }

    /** Three threads, and thread 0 comes to this code with an empty stack. */
    private static SnapForge withThreeThreads(String code, int arguments) {
        SnapForge x = Ops.begun("FORK 1, POP, FORK 1, POP, " + code);
        Ops.write(x, 1, 0, "NULL, RETURN");
        x.function(5, arguments);
        x.run(4 + 2 + 2);
        Checks.same("three threads", x.told(0), 3);
        return x;
    }

    /** 24 objects that are all found, and then this code with an empty stack. */
    private static SnapForge withFullHeap(String code) {
        SnapForge x = Ops.begun("NEW, DUP, LOAD 0, PUT 0, STORE 0, GOTO 0, POP, " + code);
        x.handle(0, 0, 1, 6);
        x.run(24 * 6 + 2);
        Checks.same("24 objects", x.told(3), 24);
        Checks.same("an empty stack", x.told(40), 0);
        return x;
    }

    private static void fewerValues() {
        Checks.about("STACK: fewer VALUES on it than are taken (tested first ..)");
        int[] one = {Ops.STORE, Ops.POP, Ops.DUP, Ops.IF, Ops.GET, Ops.APPLY, Ops.RETURN, Ops.THROW, Ops.SAY};
        int[] oneDue = {0, 0, 0, Ops.MISFIT, Ops.NOTHING, Ops.NOTHING, 0, Ops.MISFIT, Ops.MISFIT};
        for (int i = 0; i < one.length; i++) {
            takes(1, Ops.name(one[i]) + " 0", oneDue[i], 0);
        }
        for (String op : new String[] {"ADD", "SUB", "MUL", "DIV", "LESS"}) {
            takes(2, op, Ops.MISFIT, 0);
        }
        takes(2, "SAME", 0, 0);
        takes(2, "PUT 0", Ops.NOTHING, 0);
        for (int n = 0; n <= 2; n++) {
            takes(n, "CLOSE 0 " + n, 0, 0);
            takes(n, "CALL 5", 0, n);
            takes(n, "FORK 5", 0, n);
        }
        for (String op : new String[] {"NOP", "INT 1", "LONG 1 1", "NULL", "LOAD 0", "GOTO 0", "NEW", "YIELD"}) {
            takes(0, op, 0, 0);
        }
        takes(0, "HELD 0", Ops.NOTHING, 0);
    }

    /** With so many nulls it answers what is due, with fewer there is error 6. */
    private static void takes(int count, String op, int due, int arguments) {
        for (int n = 0; n <= count; n++) {
            SnapForge x = Ops.begun(Ops.times(n, "NULL", op));
            x.function(5, arguments);
            Checks.same(n + " values for " + op, errorAfter(n + 1, x), n < count ? Ops.STACK : due);
        }
    }

    private static void fewerBeforeDeepAndFull() {
        Checks.about("STACK: fewer VALUES (tested first)");
        Checks.same("CALL with five frames", errorAfter(1, inFifthFrame("CALL 5", 1)), Ops.STACK);
        Checks.same("and one of two", errorAfter(2, inFifthFrame("NULL, CALL 5", 2)), Ops.STACK);
        Checks.same("FORK with three threads", errorAfter(1, withThreeThreads("FORK 5", 1)), Ops.STACK);
        Checks.same("and one of two", errorAfter(2, withThreeThreads("NULL, FORK 5", 2)), Ops.STACK);
        Checks.same("CLOSE with 24 objects", errorAfter(1, withFullHeap("CLOSE 0 1")), Ops.STACK);
        Checks.same("and one of two", errorAfter(2, withFullHeap("NULL, CLOSE 0 2")), Ops.STACK);
        SnapForge x = withFullHeap("NULL, STORE 0, CLOSE 0 1");
        Checks.same("CLOSE with 24 that are lost", errorAfter(3, x), Ops.STACK);
        Checks.same("they were not looked for", x.told(3), 24);
    }

    private static void fewerArgumentsOfApply() {
        Checks.about("STACK: but the ARGUMENTS of APPLY behind x");
        for (int n = 1; n <= 2; n++) {
            for (int there = 0; there <= n; there++) {
                String values = there == 0 ? "" : Ops.times(there, "INT 1") + ", ";
                SnapForge x = Ops.begun(values + "CLOSE 5 0, APPLY");
                x.function(5, n);
                int due = there < n ? Ops.STACK : 0;
                Checks.same(there + " of " + n + " for a closure", errorAfter(there + 2, x), due);
            }
        }
        Checks.same("nothing is null's", errorAfter(2, Ops.begun("NULL, APPLY")), Ops.NOTHING);
        Checks.same("nothing is a record's", errorAfter(2, Ops.begun("NEW, APPLY")), Ops.MISFIT);
        Checks.same("x itself is tested first", errorAfter(1, Ops.begun("APPLY")), Ops.STACK);
    }

    private static void deepBehindBoth() {
        Checks.about("STACK: and DEEP .. behind both");
        Checks.same("APPLY of none", errorAfter(1, inFifthFrame("APPLY", 0)), Ops.STACK);
        Checks.same("of null", errorAfter(2, inFifthFrame("NULL, APPLY", 0)), Ops.NOTHING);
        Checks.same("of an int", errorAfter(2, inFifthFrame("INT 1, APPLY", 0)), Ops.MISFIT);
        Checks.same("with no argument of one", errorAfter(2, inFifthFrame("CLOSE 5 0, APPLY", 1)), Ops.STACK);
        Checks.same("with one of two", errorAfter(3, inFifthFrame("NULL, CLOSE 5 0, APPLY", 2)), Ops.STACK);
        Checks.same("with all", errorAfter(3, inFifthFrame("NULL, CLOSE 5 0, APPLY", 1)), Ops.DEEP);
        Checks.same("CALL with all", errorAfter(2, inFifthFrame("NULL, CALL 5", 1)), Ops.DEEP);
    }

    private static void fullBehindBoth() {
        Checks.about("STACK: and .. FULL behind both");
        Checks.same("FORK with its argument", errorAfter(2, withThreeThreads("NULL, FORK 5", 1)), Ops.FULL);
        Checks.same("FORK without any", errorAfter(1, withThreeThreads("FORK 5", 0)), Ops.FULL);
        Checks.same("CLOSE with its two", errorAfter(3, withFullHeap("NULL, NULL, CLOSE 0 2")), Ops.FULL);
        Checks.same("CLOSE without any", errorAfter(1, withFullHeap("CLOSE 0 0")), Ops.FULL);
        Checks.same("NEW", errorAfter(1, withFullHeap("NEW")), Ops.FULL);
    }

    private static void seventhValue() {
        Checks.about("STACK: or a seventh one would come (tested last; nothing is made or begun then)");
        for (String op : new String[] {"INT 1", "LONG 1 1", "NULL", "LOAD 0", "DUP", "NEW", "CLOSE 1 0", "FORK 1"}) {
            SnapForge x = Ops.begun(Ops.times(5, "INT 8", op, op));
            Ops.write(x, 1, 0, "GOTO 0");
            x.run(6);
            Checks.same("a sixth comes by " + op, x.told(40), 6);
            int objects = x.told(3);
            int threads = x.told(0);
            Checks.same("a seventh by " + op, errorAfter(1, x), Ops.STACK);
            Checks.same("nothing is made by " + op, x.told(3), objects);
            Checks.same("nothing is begun by " + op, x.told(0), threads);
        }
        for (String op : new String[] {"NEW", "CLOSE 1 0", "FORK 1"}) {
            SnapForge x = Ops.begun(Ops.times(6, "INT 8", op, "GOTO 7"));
            x.handle(0, 6, 7, 7);
            x.run(7);
            Checks.same("the error is handled after " + op, x.told(40), 1);
            Checks.same("no object", x.told(3), 0);
            Checks.same("no thread", x.told(0), 1);
            Checks.same("no place for it", x.told(11), -1);
        }
    }

    private static void seventhValueOfClosures() {
        Checks.about("STACK: a seventh one would come, by HELD");
        SnapForge x = Ops.begun("INT 5, CLOSE 1 1, APPLY");
        Ops.write(x, 1, 0, Ops.times(7, "HELD 0"));
        x.run(9);
        Checks.same("six", x.told(40), 6);
        Checks.same("a seventh", errorAfter(1, x), Ops.STACK);
    }

    private static void sixAreEnough() {
        Checks.about("STACK: a seventh one would come: not with what takes as much as it gives");
        String six = Ops.times(6, "INT 8") + ", ";
        for (String op : new String[] {"ADD", "SUB", "MUL", "DIV", "LESS", "SAME"}) {
            SnapForge x = Ops.begun(six + op);
            Checks.same(op, errorAfter(7, x), 0);
            Checks.same("five after " + op, x.told(40), 5);
        }
        for (int taken = 0; taken <= 2; taken++) {
            for (int n = taken; n < 6 || n == 6 && taken > 0; n++) {
                for (String op : new String[] {"CLOSE 0 " + taken, "FORK 5"}) {
                    SnapForge x = Ops.begun(Ops.times(n, "INT 8", op));
                    x.function(5, taken);
                    Checks.same(op + " of " + n, errorAfter(n + 1, x), 0);
                    Checks.same("what is left after " + op + " of " + n, x.told(40), n - taken + 1);
                }
            }
        }
        SnapForge y = Ops.begun(Ops.times(5, "INT 8", "NEW", "GET 1"));
        Checks.same("GET", errorAfter(7, y), 0);
        Checks.same("six after GET", y.told(40), 6);
        SnapForge z = Ops.begun(six + "CALL 5");
        Checks.same("CALL gives nothing", errorAfter(7, z), 0);
        Checks.same("a new frame", z.told(20), 2);
        SnapForge w = Ops.begun(Ops.times(5, "INT 8", "CLOSE 5 0", "APPLY"));
        Checks.same("APPLY gives nothing", errorAfter(7, w), 0);
    }

    private static void seventhIsTestedLast() {
        Checks.about("STACK: or a seventh one would come (tested last)");
        String six = Ops.times(6, "INT 8") + ", ";
        Checks.same("HELD without a closure", errorAfter(7, Ops.begun(six + "HELD 0")), Ops.NOTHING);
        Checks.same("FORK with three threads", errorAfter(7, withThreeThreads(six + "FORK 5", 0)), Ops.FULL);
        Checks.same("NEW with 24 objects", errorAfter(7, withFullHeap(six + "NEW")), Ops.FULL);
        Checks.same("CLOSE with 24 objects", errorAfter(7, withFullHeap(six + "CLOSE 0 0")), Ops.FULL);
        for (String op : new String[] {"NEW", "CLOSE 0 0"}) {
            SnapForge x = withFullHeap("NULL, STORE 0, " + six + op);
            Checks.same(op + " with 24 that are lost", errorAfter(9, x), Ops.STACK);
            Checks.same("they were looked for, and nothing is made", x.told(3), 0);
        }
    }

    private static void deep() {
        Checks.about("DEEP: CALL or APPLY with 5 FRAMES");
        SnapForge x = Ops.begun("CALL 0");
        Checks.same("the fourth CALL", errorAfter(4, x), 0);
        Checks.same("the fifth CALL", errorAfter(1, x), Ops.DEEP);
        SnapForge y = Ops.begun("CLOSE 0 0, APPLY");
        Checks.same("the fourth APPLY", errorAfter(8, y), 0);
        Checks.same("five frames", y.told(20), 5);
        Checks.same("the fifth APPLY", errorAfter(2, y), Ops.DEEP);
        SnapForge z = inFifthFrame("CALL 5, GOTO 1", 0);
        z.handle(4, 0, 1, 1);
        z.run(1);
        Checks.same("nothing is begun", z.told(20), 5);
        Checks.same("the error is handled there", z.told(50), 1);
    }

    private static void fullOfThreads() {
        Checks.about("FULL: FORK with 3 THREADS");
        SnapForge x = Ops.begun("FORK 1, FORK 2, NOP, NOP, FORK 1");
        Ops.write(x, 1, 0, "NULL, RETURN");
        Ops.write(x, 2, 0, "POP");
        x.run(7);
        Checks.same("thread 1 ended", x.told(11), 1);
        Checks.same("thread 2 failed", x.told(12), 2);
        Checks.same("they count, too", errorAfter(1, x), Ops.FULL);
        Checks.same("three threads", x.told(0), 3);
    }

    private static void behind() {
        Checks.about("BEHIND: there is no INSTRUCTION at the PLACE");
        Checks.same("no code", errorAfter(1, Ops.begun("")), Ops.BEHIND);
        SnapForge x = Ops.begun("NOP, NOP");
        Checks.same("the last one", errorAfter(2, x), 0);
        Checks.same("behind it", errorAfter(1, x), Ops.BEHIND);
        Checks.same("it is one that is done", x.told(4), 3);
        SnapForge y = Ops.begun("GOTO 2, NOP");
        Checks.same("to the place behind", errorAfter(1, y), 0);
        Checks.same("there is nothing", errorAfter(1, y), Ops.BEHIND);
        SnapForge z = Ops.begun("GOTO 1");
        z.run(1);
        z.add(0, Ops.NOP, 0, 0);
        Checks.same("one that came meanwhile", errorAfter(1, z), 0);
        SnapForge w = Ops.begun("CALL 1, RETURN");
        w.handle(0, 0, 1, 1);
        w.run(2);
        Checks.same("in an upper frame it goes down", w.told(20), 1);
        w.run(1);
        Checks.same("as 7", w.value(0), Ops.BEHIND);
    }

    /** A program that fails at place 5, with a handler. */
    private static SnapForge failingAtFive(int from, int to) {
        SnapForge x = Ops.begun(Ops.times(5, "NOP", "POP", "NOP", "NOP"));
        x.handle(0, from, to, 7);
        return x;
    }

    private static void fromAndTo() {
        Checks.about("a HANDLER that has its PLACE (from not above it, to above it)");
        Checks.same("from at it", errorAfter(6, failingAtFive(5, 30)), 0);
        Checks.same("from above it", errorAfter(6, failingAtFive(6, 30)), Ops.STACK);
        Checks.same("to one above it", errorAfter(6, failingAtFive(0, 6)), 0);
        Checks.same("to at it", errorAfter(6, failingAtFive(0, 5)), Ops.STACK);
        Checks.same("it alone", errorAfter(6, failingAtFive(5, 6)), 0);
        Checks.same("all", errorAfter(6, failingAtFive(0, 30)), 0);
        SnapForge x = Ops.begun("POP, RETURN");
        x.handle(0, 0, 1, 1);
        Checks.same("place 0", errorAfter(1, x), 0);
        SnapForge y = Ops.begun(Ops.times(29, "NOP", "POP"));
        y.handle(0, 29, 30, 0);
        Checks.same("place 29", errorAfter(30, y), 0);
    }

    private static void firstHandler() {
        Checks.about("An ERROR in a FRAME goes to the first HANDLER of its FUNCTION that has its PLACE");
        int[][][] rows = {
            {{0, 30, 6}, {5, 6, 7}, {0, 30, 8}},
            {{6, 30, 6}, {0, 30, 7}, {5, 6, 8}},
            {{0, 5, 6}, {6, 30, 7}, {5, 6, 8}},
        };
        for (int i = 0; i < rows.length; i++) {
            SnapForge x = Ops.begun(Ops.times(5, "NOP", "POP", "NOP", "NOP", "NOP"));
            for (int[] h : rows[i]) {
                x.handle(0, h[0], h[1], h[2]);
            }
            x.run(6);
            Checks.same("row " + i, x.told(50), 6 + i);
        }
    }

    private static void errorAlone() {
        Checks.about("the STACK is the ERROR alone, as an INT");
        SnapForge x = Ops.begun("INT 7, STORE 2, LONG 1 1, NULL, INT 2, NULL, NULL, INT 5, THROW, LOAD 2, MUL, RETURN");
        x.handle(0, 8, 9, 9);
        x.run(9);
        Checks.same("one value", x.told(40), 1);
        x.snapshot();
        int at = 9 + 2 + 1 + 2 + 5 + 1;
        int[] due = {1, 1, 21, 0, 0, 0, 0};
        for (int i = 0; i < due.length; i++) {
            Checks.same("byte " + i + " of the stack", x.image(at + i), due[i]);
        }
        x.run(3);
        Checks.same("the locals stay", x.value(0), 21 * 7);
        SnapForge y = Ops.begun("POP, NOP");
        y.handle(0, 0, 1, 1);
        y.run(1);
        Checks.same("where the stack was empty, too", y.told(40), 1);
        SnapForge z = Ops.begun("INT 9, CLOSE 1 1, APPLY, RETURN");
        Ops.write(z, 1, 0, "POP, HELD 0, RETURN");
        z.handle(1, 0, 1, 1);
        z.run(300);
        Checks.same("the closure stays", z.value(0), 9);
    }

    private static void placeAt() {
        Checks.about("and it goes on at PLACE at");
        for (int at : new int[] {0, 3, 29}) {
            SnapForge x = Ops.begun("NOP, NOP, THROW");
            x.handle(0, 2, 3, at);
            x.run(3);
            Checks.same("at " + at, x.told(50), at);
            Checks.same("it runs", x.told(10), 0);
        }
        SnapForge y = Ops.begun("THROW");
        y.handle(0, 0, 1, 0);
        y.run(1);
        Checks.same("its own place", y.told(50), 0);
        y.run(1);
        Checks.same("an error of what handles", y.told(50), 0);
        Checks.same("is handled likewise", y.told(10), 0);
        y.snapshot();
        Checks.same("with the later one", y.image(18), 16 + Ops.STACK);
        SnapForge z = Ops.begun("POP");
        z.handle(0, 0, 1, 7);
        z.run(1);
        Checks.same("a place behind the code", z.told(50), 7);
        Checks.same("has no instruction", errorAfter(1, z), Ops.BEHIND);
    }

    private static void handlersOfTheFunctionAlone() {
        Checks.about("the first HANDLER of its FUNCTION");
        SnapForge x = Ops.begun("POP, NOP");
        for (int f = 1; f < 6; f++) {
            x.handle(f, 0, 30, 1);
        }
        Checks.same("others' do not count", errorAfter(1, x), Ops.STACK);
        SnapForge y = Ops.begun("CALL 5, NOP");
        Ops.write(y, 5, 0, "NOP, POP, NOP");
        y.handle(5, 1, 2, 2);
        y.handle(0, 0, 30, 1);
        y.run(3);
        Checks.same("its own counts first", y.told(20), 2);
        Checks.same("at its place", y.told(50), 2);
    }

    private static void placeOfTheCall() {
        Checks.about("the FRAME ends, and it is an ERROR in the one below (whose PLACE is still that of its "
            + "CALL or APPLY)");
        for (String enter : new String[] {"NOP, CALL 1", "CLOSE 1 0, APPLY"}) {
            int[][] handlers = {{1, 2, 0}, {0, 1, Ops.STACK}, {2, 30, Ops.STACK}};
            for (int[] h : handlers) {
                SnapForge x = Ops.begun(enter + ", NOP, INT 1, ADD, RETURN");
                Ops.write(x, 1, 0, "INT 5, POP, POP");
                x.handle(0, h[0], h[1], 3);
                Checks.same(enter + ", from " + h[0], errorAfter(5, x), h[2]);
                if (h[2] == 0) {
                    Checks.same("one frame", x.told(20), 1);
                    Checks.same("at", x.told(50), 3);
                    x.run(3);
                    Checks.same("with the error", x.value(0), Ops.STACK + 1);
                }
            }
        }
    }

    private static void downThroughAllFrames() {
        Checks.about("If none has it, the FRAME ends, and it is an ERROR in the one below");
        for (int f = 0; f < 5; f++) {
            SnapForge x = inFifthFrame("POP", 0);
            x.handle(f, 0, 1, 9);
            x.run(1);
            Checks.same("frames left", x.told(20), f + 1);
            Checks.same("in function", x.told(60), f);
            Checks.same("at", x.told(50), 9);
            Checks.same("with the error alone", x.told(40), 1);
            Checks.same("in one instruction", x.told(4), 5);
        }
    }

    private static void failed() {
        Checks.about("without one the THREAD is FAILED with it");
        SnapForge x = inFifthFrame("INT 3, THROW", 0);
        Checks.same("none runs", x.run(2), 0);
        Checks.same("failed", x.told(10), 2);
        Checks.same("with", x.told(30), 19);
        Checks.same("no frames", x.told(20), 0);
        Checks.same("no value", x.told(40), -1);
        SnapForge y = Ops.begun("FORK 1, POP, GOTO 2");
        Ops.write(y, 1, 0, "POP");
        y.run(10);
        Checks.same("thread 1 failed", y.told(31), Ops.STACK);
        Checks.same("thread 0 runs", y.told(10), 0);
    }

    private static void returnOfASeventh() {
        Checks.about("If x of a RETURN would be a seventh one below, that is an ERROR 6 there");
        for (String enter : new String[] {Ops.times(6, "INT 8", "CALL 1"), Ops.times(6, "NULL", "CALL 1")}) {
            SnapForge x = Ops.begun(enter + ", NOP, RETURN");
            Ops.write(x, 1, 0, "INT 3, RETURN");
            x.handle(1, 0, 30, 0);
            x.handle(0, 6, 7, 8);
            x.run(8);
            Checks.same("two frames", x.told(20), 2);
            x.run(1);
            Checks.same("the frame ended", x.told(20), 1);
            Checks.same("a handler of the CALL has it", x.told(50), 8);
            x.run(1);
            Checks.same("it is 6", x.value(0), Ops.STACK);
        }
        SnapForge y = Ops.begun(Ops.times(6, "INT 8", "CALL 1", "NOP"));
        Ops.write(y, 1, 0, "INT 3, RETURN");
        y.handle(1, 0, 30, 0);
        y.handle(0, 7, 8, 7);
        Checks.same("a handler behind the CALL has it not", errorAfter(9, y), Ops.STACK);
        SnapForge z = Ops.begun("NOP, CALL 1, NOP, RETURN");
        Ops.write(z, 1, 0, Ops.times(6, "INT 8", "CALL 2"));
        Ops.write(z, 2, 0, "INT 3, RETURN");
        z.handle(0, 1, 2, 3);
        z.run(11);
        Checks.same("it goes further down", z.told(20), 1);
        z.run(1);
        Checks.same("as 6", z.value(0), Ops.STACK);
        SnapForge w = Ops.begun(Ops.times(5, "INT 8", "CALL 1", "GOTO 6"));
        Ops.write(w, 1, 0, "INT 3, RETURN");
        Checks.same("a sixth one is none", errorAfter(8, w), 0);
        Checks.same("it came", w.told(40), 6);
    }
}
