/** Promises 10 to 12: snapshot, load, where. */
public final class ImageTest {
    private ImageTest() {
    }

    public static void main(String[] args) {
        bytesOfRunning();
        bytesOfEndedAndFailed();
        numbersOfObjects();
        codeSums();
        snapshotChangesNothing();
        goesOn();
        loadsOneAfterTheOther();
        loadWithoutStart();
        faultsOfTheHead();
        faultsOfThreads();
        faultsOfFrames();
        faultsOfObjects();
        faultsOfTheEnd();
        missingBytes();
        unknown();
        turnAtLast();
        nothingChangesWithAFault();
        placesOfPatchedFrames();
        Checks.finish("ImageTest");
    }

    private static void has(String what, SnapForge x, int... due) {
        int size = x.image(-1);
        Checks.same(what + ": how many bytes", size, due.length);
        for (int k = 0; k < due.length && k < size; k++) {
            Checks.same(what + ": byte " + k, x.image(k), due[k]);
        }
    }

    private static int sum(int... bytes) {
        int sum = 0;
        for (int b : bytes) {
            sum += b;
        }
        return sum & 255;
    }

    /** These bytes and their sum. */
    private static int[] summed(int... bytes) {
        int[] all = java.util.Arrays.copyOf(bytes, bytes.length + 1);
        all[bytes.length] = sum(bytes);
        return all;
    }

    private static void lay(SnapForge x, int... bytes) {
        x.cut(0);
        for (int k = 0; k < bytes.length; k++) {
            x.patch(k, bytes[k], false);
        }
    }

    private static void reads(String what, SnapForge x, int threads, int... bytes) {
        lay(x, bytes);
        Checks.same(what, x.load(), threads);
        Checks.same(what + ": where", x.where(), -2);
        x.snapshot();
        has(what, x, bytes);
    }

    private static void faulty(String what, int place, int... bytes) {
        SnapForge x = new SnapForge();
        lay(x, bytes);
        Checks.bad(what, x::load);
        Checks.same(what + ": where", x.where(), place);
        Checks.same(what + ": nothing is there", x.told(0), 0);
    }

    private static void bytesOfRunning() {
        SnapForge x = new SnapForge();
        Ops.code(x, 0, 2, Ops.op(Ops.LONG, -1, 2), Ops.op(Ops.LOAD, 1), Ops.op(Ops.CALL, 5));
        Ops.code(x, 5, 1, Ops.op(Ops.NULL), Ops.op(Ops.NOP));
        x.start(0, 1, -2);
        x.run(5);
        // 2 - 1 + 2, 4 + 1, 21 + 5; 3, 0
        int s = 3;
        for (int next : new int[] {5, 26, 3, 0}) {
            s = 31 * s + next;
        }
        Checks.same("snapshot", x.snapshot(), 49);
        has("two frames", x, summed(83, 78, 1, s & 255, 0, 1, 1, 0, 2,
            0, 2, 0, 1, 1, 0, 0, 0, 1, 254, 255, 255, 255, 0, 0, 1, 2, 2, 0, 0, 0, 255, 255, 255, 255,
            5, 2, 0, 1, 254, 255, 255, 255, 0, 0, 0, 1, 0, 0));
    }

    private static void bytesOfEndedAndFailed() {
        SnapForge x = Ops.started(Ops.op(Ops.FORK, 1), Ops.op(Ops.FORK, 2), Ops.op(Ops.LONG, 1, 2),
            Ops.op(Ops.RETURN));
        Ops.code(x, 1, 0, Ops.op(Ops.INT, 20), Ops.op(Ops.THROW));
        Ops.code(x, 2, 0, Ops.op(Ops.CLOSE, 3, 0), Ops.op(Ops.RETURN));
        x.run(300);
        x.snapshot();
        int codeSum = x.image(3);
        has("ended and failed", x, summed(83, 78, 1, codeSum, 2, 0, 3,
            1, 2, 2, 0, 0, 0, 1, 0, 0, 0, 2, 20, 1, 4, 0, 1, 4, 3, 0));
    }

    private static void numbersOfObjects() {
        // Local 3 has a record whose field 0 is a closure, local 0 comes up before it with a closure
        // that holds the record and 7; the stack has a third one.
        SnapForge x = Ops.started(Ops.op(Ops.NEW), Ops.op(Ops.STORE, 3),
            Ops.op(Ops.LOAD, 3), Ops.op(Ops.CLOSE, 4, 0), Ops.op(Ops.PUT, 0),
            Ops.op(Ops.LOAD, 3), Ops.op(Ops.INT, 7), Ops.op(Ops.CLOSE, 2, 2), Ops.op(Ops.STORE, 0),
            Ops.op(Ops.NEW), Ops.op(Ops.POP), Ops.op(Ops.NEW));
        x.run(12);
        x.snapshot();
        Checks.same("counted, one lost", x.told(3), 5);
        has("objects", x, summed(83, 78, 1, x.image(3), 0, 0, 1, 0, 1,
            0, 12, 0, 4, 0, 0, 0, 3, 1, 1, 3, 2,
            4, 4, 2, 2, 3, 1, 1, 7, 0, 0, 0, 3, 4, 3, 0, 0, 3, 0, 0, 0, 4, 4, 0));
    }

    private static void codeSums() {
        SnapForge x = new SnapForge();
        x.add(3, Ops.INT, -3, 0);
        x.add(3, Ops.INT, 1000000, 0);
        x.add(1, Ops.LONG, Integer.MIN_VALUE, -1);
        x.start(0, 0, 0);
        x.snapshot();
        int s = 2 + Integer.MIN_VALUE - 1;
        s = 31 * s + 1 - 3;
        s = 31 * s + 1 + 1000000;
        Checks.same("code sum by functions, then places", x.image(3), s & 255);
        x.handle(0, 0, 1, 0);
        Checks.same("handlers and arguments are not in it", x.function(0, 2), 2);
        Checks.same("so it is read", x.load(), 1);
    }

    private static void snapshotChangesNothing() {
        SnapForge x = Ops.started(Ops.op(Ops.NEW), Ops.op(Ops.POP), Ops.op(Ops.GOTO, 0));
        x.run(5);
        int size = x.snapshot();
        Checks.same("again", x.snapshot(), size);
        Checks.same("lost objects are counted still", x.told(3), 2);
        Checks.same("done", x.told(4), 5);
        Checks.same("turn", x.told(2), 1);
    }

    /** A program that uses nearly all, and says as it goes. */
    private static SnapForge busy() {
        SnapForge x = new SnapForge();
        Ops.code(x, 0, 2, Ops.op(Ops.LOAD, 0), Ops.op(Ops.NULL), Ops.op(Ops.FORK, 1), Ops.op(Ops.POP),
            Ops.op(Ops.NEW), Ops.op(Ops.DUP), Ops.op(Ops.LOAD, 2), Ops.op(Ops.PUT, 1), Ops.op(Ops.STORE, 2),
            Ops.op(Ops.LOAD, 0), Ops.op(Ops.LOAD, 2), Ops.op(Ops.CLOSE, 2, 2), Ops.op(Ops.LOAD, 1),
            Ops.op(Ops.DUP), Ops.op(Ops.POP), Ops.op(Ops.STORE, 3), Ops.op(Ops.APPLY), Ops.op(Ops.SAY),
            Ops.op(Ops.LOAD, 0), Ops.op(Ops.INT, 1), Ops.op(Ops.SUB), Ops.op(Ops.DUP), Ops.op(Ops.STORE, 0),
            Ops.op(Ops.IF, 4), Ops.op(Ops.LOAD, 2), Ops.op(Ops.RETURN));
        Ops.code(x, 1, 2, Ops.op(Ops.LOAD, 0), Ops.op(Ops.LONG, 3, -7), Ops.op(Ops.MUL), Ops.op(Ops.SAY),
            Ops.op(Ops.YIELD), Ops.op(Ops.NEW), Ops.op(Ops.STORE, 1), Ops.op(Ops.GOTO, 0));
        Ops.code(x, 2, 0, Ops.op(Ops.HELD, 0), Ops.op(Ops.HELD, 1), Ops.op(Ops.GET, 2), Ops.op(Ops.GET, 0),
            Ops.op(Ops.RETURN), Ops.op(Ops.HELD, 0), Ops.op(Ops.ADD), Ops.op(Ops.RETURN));
        x.handle(2, 2, 4, 5);
        x.start(0, 9, 5);
        return x;
    }

    /** At each step the image is read back, and all goes on as if nothing had been. */
    private static void goesOn() {
        SnapForge plain = busy();
        SnapForge other = busy();
        for (int step = 0; step < 100; step++) {
            Checks.same("it runs", other.run(1), plain.run(1));
            Checks.same("an image", other.snapshot(), plain.snapshot());
            Checks.same("is read", other.load(), plain.told(0));
        }
        SnapForge third = busy();
        third.run(100);
        int size = third.snapshot();
        for (int k = 0; k < size; k++) {
            Checks.same("byte " + k + " with reading", other.image(k), plain.image(k));
            Checks.same("byte " + k + " without images", third.image(k), plain.image(k));
        }
        int said = plain.told(5);
        Checks.same("as much said", other.told(5), said);
        for (int k = 0; k < said; k++) {
            Checks.same("said " + k, other.said(k), plain.said(k));
        }
        Checks.same("something was said", said > 5 ? 1 : 0, 1);
    }

    /** What an earlier image brought is nothing to a later one. */
    private static void loadsOneAfterTheOther() {
        SnapForge x = new SnapForge();
        // Thread 0 ended with a record, whose field 0 is itself and 1 a closure; thread 1 failed;
        // thread 2 has two frames, the upper one by the closure.
        int[] three = summed(83, 78, 1, 0, 2, 3, 3, 1, 3, 0, 2, 7, 0, 2,
            0, 0, 0, 1, 1, 0, 0, 0, 0, 0, 0, 2, 0, 0,
            5, 3, 4, 1, 0, 0, 0, 0, 0,
            2, 3, 3, 0, 4, 1, 0, 4, 0, 0);
        int[] one = summed(83, 78, 1, 0, 0, 0, 1, 0, 1, 0, 0, 0, 0, 0, 0, 0, 0, 0);
        int[] two = summed(83, 78, 1, 0, 0, 0, 2, 1, 4, 0, 2, 3, 1, 4, 1, 1, 1, 8, 0, 0, 0);
        for (int round = 0; round < 2; round++) {
            reads("three threads", x, 3, three);
            Checks.same("two objects", x.told(3), 2);
            reads("one thread", x, 1, one);
            Checks.same("no objects", x.told(3), 0);
            Checks.same("an empty stack", x.told(40), 0);
            Checks.same("no thread 1", x.told(11), -1);
            reads("two threads", x, 2, two);
            Checks.same("one object", x.told(3), 1);
            Checks.same("no error", x.told(30), 0);
            Checks.same("no frames", x.told(20), 0);
        }
    }

    private static void loadWithoutStart() {
        SnapForge x = new SnapForge();
        x.add(2, Ops.NOP, 0, 0);
        x.add(2, Ops.RETURN, 0, 0);
        int sum = Ops.RETURN;
        reads("an image without a start", x, 1, summed(83, 78, 1, sum, 0, 3, 1, 0, 1,
            2, 0, 0, 0, 0, 0, 0, 1, 1, 9, 0, 0, 0, 0));
        Checks.same("done in this turn", x.told(2), 3);
        Checks.same("done in all", x.told(4), 0);
        Checks.same("it runs", x.run(1), 1);
        Checks.same("the turn went round", x.told(2), 0);
        Checks.same("to its end", x.run(5), 0);
        Checks.same("with its value", x.value(0), 9);
        reads("all ended, a turn half done", x, 2, summed(83, 78, 1, sum, 1, 2, 2, 1, 0, 2, 31, 0));
        Checks.same("none runs", x.run(300), 0);
        Checks.same("the turn is as read", x.told(1), 1);
        Checks.same("and what is done in it", x.told(2), 2);
    }

    private static void faultsOfTheHead() {
        faulty("empty", 0);
        faulty("byte 0", 0, 82, 78, 1);
        faulty("byte 1", 1, 83, 79, 1);
        faulty("byte 2", 2, 83, 78, 0);
        faulty("turn 3", 4, 83, 78, 1, 0, 3, 9, 9);
        faulty("done 4", 5, 83, 78, 1, 0, 2, 4, 9);
        faulty("no threads", 6, 83, 78, 1, 0, 0, 0, 0);
        faulty("four threads", 6, 83, 78, 1, 0, 0, 0, 4);
    }

    private static void faultsOfThreads() {
        faulty("what it does", 7, 83, 78, 1, 0, 0, 0, 1, 3);
        faulty("no frames", 8, 83, 78, 1, 0, 0, 0, 1, 0, 0);
        faulty("six frames", 8, 83, 78, 1, 0, 0, 0, 1, 0, 6);
        for (int error : new int[] {0, 8, 9, 15, 32, 255}) {
            faulty("error " + error, 8, 83, 78, 1, 0, 0, 0, 1, 2, error);
        }
        for (int error : new int[] {1, 2, 3, 4, 5, 6, 7, 16, 17, 31}) {
            SnapForge x = new SnapForge();
            reads("error " + error, x, 1, summed(83, 78, 1, 0, 0, 0, 1, 2, error, 0));
            Checks.same("as told", x.told(30), error);
        }
        faulty("value 5", 8, 83, 78, 1, 0, 0, 0, 1, 1, 5);
        SnapForge y = new SnapForge();
        reads("a long", y, 1, summed(83, 78, 1, 0, 0, 0, 1, 1, 2, 255, 255, 255, 255, 255, 255, 255, 127, 0));
        Checks.same("the value", y.value(0), Long.MAX_VALUE);
        reads("an int", y, 1, summed(83, 78, 1, 0, 0, 0, 1, 1, 1, 0, 0, 0, 128, 0));
        Checks.same("with its sign", y.value(0), Integer.MIN_VALUE);
    }

    private static void faultsOfFrames() {
        faulty("function 6", 9, 83, 78, 1, 0, 0, 0, 1, 0, 1, 6, 31);
        faulty("place 31", 10, 83, 78, 1, 0, 0, 0, 1, 0, 1, 5, 31);
        for (int kind : new int[] {1, 2, 3, 5}) {
            faulty("closure " + kind, 11, 83, 78, 1, 0, 0, 0, 1, 0, 1, 5, 30, kind, 0);
        }
        faulty("local 3", 15, 83, 78, 1, 0, 0, 0, 1, 0, 1, 0, 0, 0, 0, 0, 0, 5);
        faulty("seven values", 16, 83, 78, 1, 0, 0, 0, 1, 0, 1, 0, 0, 0, 0, 0, 0, 0, 7);
        faulty("the first value of the stack", 17, 83, 78, 1, 0, 0, 0, 1, 0, 1, 0, 0, 0, 0, 0, 0, 0, 1, 9);
        SnapForge x = new SnapForge();
        reads("six values, place 30", x, 1, summed(83, 78, 1, 0, 0, 0, 1, 0, 1,
            5, 30, 4, 0, 0, 0, 0, 0, 6, 0, 0, 0, 0, 0, 0, 2, 4, 0, 2, 0, 3, 1, 3, 0, 0, 0));
    }

    /** An ended thread with this value, and what comes behind it. */
    private static int[] ended(int... rest) {
        int[] all = java.util.Arrays.copyOf(new int[] {83, 78, 1, 0, 0, 0, 1, 1}, 8 + rest.length);
        System.arraycopy(rest, 0, all, 8, rest.length);
        return all;
    }

    private static void faultsOfObjects() {
        faulty("number 1 comes first", 9, ended(3, 1));
        faulty("number 24", 9, ended(3, 24));
        faulty("as many objects as came up: none", 10, ended(3, 0, 0));
        faulty("no object came up: one", 10, ended(0, 1));
        faulty("25 objects", 10, ended(3, 0, 25));
        faulty("another sort than it came up with", 11, ended(3, 0, 1, 4));
        faulty("no sort at all", 11, ended(4, 0, 1, 0));
        faulty("an object that did not come up", 15, ended(3, 0, 2, 3, 0, 0, 0, 3, 0, 0, 0));
        faulty("it is a fault even when its byte is missing", 15, ended(3, 0, 2, 3, 0, 0, 0));
        faulty("even when the sum stands there", 15, summed(ended(3, 0, 2, 3, 0, 0, 0)));
        faulty("a number of another sort", 13, ended(3, 0, 1, 3, 4, 0));
        faulty("a number not below how many", 13, ended(3, 0, 1, 3, 3, 1));
        faulty("a number above those that came up", 13, ended(3, 0, 3, 3, 3, 2));
        faulty("function of a closure", 12, ended(4, 0, 1, 4, 6));
        faulty("three held", 13, ended(4, 0, 1, 4, 5, 3));
        faulty("a held value", 14, ended(4, 0, 1, 4, 5, 1, 5));
        SnapForge x = new SnapForge();
        reads("objects by their numbers", x, 1, summed(ended(3, 0, 3, 3, 3, 0, 4, 1, 3, 2,
            4, 5, 2, 3, 2, 4, 1, 3, 0, 0, 0)));
        Checks.same("three counted", x.told(3), 3);
        int[] chain = new int[3 + 24 * 5 - 1];
        chain[0] = 3;
        chain[2] = 24;
        for (int i = 0; i < 24; i++) {
            chain[3 + 5 * i] = 3;
            if (i < 23) {
                chain[4 + 5 * i] = 3;
                chain[5 + 5 * i] = i + 1;
            }
        }
        reads("24 objects", x, 1, summed(ended(chain)));
        chain[4 + 5 * 22 + 1] = 24;
        faulty("a 25th one", 8 + 4 + 5 * 22 + 1, ended(chain));
        faulty("two sorts in threads", 12, 83, 78, 1, 0, 0, 0, 2, 1, 3, 0, 1, 4, 0);
    }

    private static void faultsOfTheEnd() {
        int[] good = summed(ended(0, 0));
        int[] bad = good.clone();
        bad[10]++;
        faulty("the sum", 10, bad);
        int[] more = java.util.Arrays.copyOf(good, 12);
        faulty("behind it", 11, more);
        bad[4] = 2;
        faulty("the sum before the turn", 10, bad);
    }

    private static void missingBytes() {
        SnapForge x = busy();
        x.run(60);
        int size = x.snapshot();
        for (int n = size - 1; n >= 0; n--) {
            x.cut(n);
            Checks.bad("cut to " + n, x::load);
            Checks.same("cut to " + n, x.where(), n);
        }
    }

    private static void unknown() {
        SnapForge x = Ops.started(Ops.op(Ops.NOP));
        x.snapshot();
        x.patch(3, 9, true);
        Checks.unsupported("another code sum", x::load);
        Checks.same("where", x.where(), 3);
        x.patch(7, 9, true);
        Checks.unsupported("before later faults", x::load);
        x.patch(2, 9, true);
        Checks.bad("behind earlier ones", x::load);
        Checks.same("where", x.where(), 2);
        x.snapshot();
        x.add(0, Ops.INT, 1, 0);
        Checks.unsupported("the program has more code", x::load);
        x.function(0, 0);
        x.add(0, Ops.NOP, 0, 0);
        Checks.same("as before", x.load(), 1);
        Checks.same("no fault", x.where(), -2);
        x.cut(3);
        Checks.bad("a code sum that is missing is a fault", x::load);
        Checks.same("where", x.where(), 3);
    }

    private static void turnAtLast() {
        faulty("no such thread", 4, summed(83, 78, 1, 0, 1, 0, 1, 2, 7, 0));
        faulty("it does not run", 4, summed(83, 78, 1, 0, 0, 0, 2, 2, 7,
            0, 1, 0, 0, 0, 0, 0, 0, 0, 0, 0));
        faulty("it is not there, none runs", 4, summed(83, 78, 1, 0, 2, 0, 2, 2, 7, 1, 0, 0));
        faulty("other faults come first", 8, summed(83, 78, 1, 0, 1, 0, 1, 2, 8, 0));
        SnapForge x = new SnapForge();
        reads("none runs", x, 2, summed(83, 78, 1, 0, 1, 0, 2, 2, 7, 1, 0, 0));
        reads("it runs", x, 2, summed(83, 78, 1, 0, 1, 0, 2, 2, 7, 0, 1, 0, 0, 0, 0, 0, 0, 0, 0, 0));
    }

    private static void nothingChangesWithAFault() {
        SnapForge x = busy();
        x.run(50);
        int size = x.snapshot();
        int[] before = new int[size];
        for (int k = 0; k < size; k++) {
            before[k] = x.image(k);
        }
        x.patch(size - 1, before[size - 1] ^ 1, false);
        Checks.bad("a wrong sum", x::load);
        Checks.same("where", x.where(), size - 1);
        Checks.same("the image is as it was laid", x.image(size - 1), before[size - 1] ^ 1);
        int counted = x.told(3);
        int done = x.told(4);
        int said = x.told(5);
        x.snapshot();
        has("all is as it was", x, before);
        Checks.same("counted", x.told(3), counted);
        Checks.same("done", x.told(4), done);
        Checks.same("said", x.told(5), said);
        Checks.same("where stays", x.where(), size - 1);
        x.load();
        Checks.same("where of a good one", x.where(), -2);
    }

    /** A frame below may be laid at place 30: it goes on behind that, where there is nothing. */
    private static void placesOfPatchedFrames() {
        SnapForge x = new SnapForge();
        x.add(1, Ops.NULL, 0, 0);
        x.add(1, Ops.RETURN, 0, 0);
        int sum = 31 * Ops.NULL + Ops.RETURN;
        lay(x, summed(83, 78, 1, sum, 0, 0, 1, 0, 2,
            0, 30, 0, 0, 0, 0, 0, 0, 1, 0, 0, 0, 0, 0, 0, 0, 0));
        x.load();
        x.run(2);
        Checks.same("behind its place", x.told(50), 31);
        Checks.same("with what came", x.told(40), 1);
        x.run(1);
        Checks.same("nothing is there", x.told(30), Ops.BEHIND);
    }
}
