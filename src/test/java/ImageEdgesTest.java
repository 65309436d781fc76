import java.util.Arrays;

/** The boundary cases that the document names for the bytes of the image and for reading them. */
public final class ImageEdgesTest {
    private static final int MIN = Integer.MIN_VALUE;
    private static final int MAX = Integer.MAX_VALUE;
    /** A frame of function 0 at place 0, all null, with an empty stack. */
    private static final int[] FRAME = {0, 0, 0, 0, 0, 0, 0, 0};

    private ImageEdgesTest() {
    }

    public static void main(String[] args) {
        codeSum();
        heads();
        threads();
        frames();
        values();
        numbersAsTheyComeUp();
        numbersInObjects();
        sums();
        largest();
        missing();
        firstFault();
        readHead();
        readCodeSum();
        readTurnAndDone();
        readThreads();
        readErrors();
        readFrames();
        readValues();
        readNumbers();
        readSorts();
        readHowManyObjects();
        readObjects();
        readUnknownObjects();
        readClosures();
        readSum();
        readBehind();
        readTurnAtLast();
        Checks.finish("ImageEdgesTest");
    }

    private static int[] join(int[]... rows) {
        return Arrays.stream(rows).flatMapToInt(Arrays::stream).toArray();
    }

    private static int[] row(int... bytes) {
        return bytes;
    }

    private static int[] changed(int[] bytes, int k, int b) {
        int[] row = bytes.clone();
        row[k] = b;
        return row;
    }

    /** These bytes and their sum. */
    private static int[] summed(int[]... rows) {
        int[] bytes = join(rows);
        return join(bytes, row(Arrays.stream(bytes).sum() & 255));
    }

    /** The head with turn 0, none done and so many threads, for a program without code. */
    private static int[] head(int threads) {
        return row(83, 78, 1, 0, 0, 0, threads);
    }

    /** One thread that is ended with what comes behind. */
    private static int[] ended(int... rest) {
        return join(head(1), row(1), rest);
    }

    /** One thread with one frame of function 0 whose local 0 and what is behind it are these. */
    private static int[] framed(int... rest) {
        return join(head(1), row(0, 1, 0, 0, 0), rest);
    }

    private static SnapForge laid(int[] bytes) {
        SnapForge x = new SnapForge();
        for (int k = 0; k < bytes.length; k++) {
            x.patch(k, bytes[k], false);
        }
        return x;
    }

    private static void has(String what, SnapForge x, int... due) {
        int[] got = new int[x.image(-1)];
        for (int k = 0; k < got.length; k++) {
            got[k] = x.image(k);
        }
        Checks.same(what, Arrays.toString(got), Arrays.toString(due));
    }

    /** It is read, and the image of then is the same. */
    private static SnapForge reads(String what, int[] bytes) {
        SnapForge x = laid(bytes);
        Checks.same(what, x.load(), bytes[6]);
        Checks.same(what + ": where", x.where(), -2);
        x.cut(0);
        x.snapshot();
        has(what, x, bytes);
        return x;
    }

    private static void faulty(String what, int place, int[] bytes) {
        SnapForge x = laid(bytes);
        Checks.bad(what, x::load);
        Checks.same(what + ": where", x.where(), place);
        Checks.early(what + ": nothing is loaded", () -> x.run(0));
    }

    /** Byte k has the fault with all numbers but the good ones; the sum is always right. */
    private static void goodAlone(String what, int k, int[] bytes, int... good) {
        for (int b = 0; b < 256; b++) {
            int wanted = b;
            SnapForge x = laid(summed(changed(bytes, k, b)));
            boolean isGood = Arrays.stream(good).anyMatch(g -> g == wanted);
            if (!isGood) {
                Checks.bad(what + " " + b, x::load);
                Checks.same(what + " " + b + ": where", x.where(), k);
                continue;
            }
            try {
                x.load();
            } catch (IllegalArgumentException e) {
                // What stands behind it may not fit it.
            }
            Checks.same(what + " " + b + " is good", x.where() == k ? 1 : 0, 0);
        }
    }

    private static int[] upTo(int least, int most) {
        int[] row = new int[most - least + 1];
        for (int i = 0; i < row.length; i++) {
            row[i] = least + i;
        }
        return row;
    }

    private static void codeSum() {
        Checks.about("the CODE SUM (s = 31 * s + op + a + b, from 0 on, for all INSTRUCTIONS of FUNCTIONS 0 to 5; "
            + "its lowest 8 bits)");
        SnapForge x = new SnapForge();
        x.start(0, 0, 0);
        x.snapshot();
        Checks.same("no code", x.image(3), 0);
        int[][] rows = {
            {5, Ops.INT, MAX, 0}, {0, Ops.INT, -2, 0}, {3, Ops.LONG, MIN, MIN}, {0, Ops.LONG, MAX, MAX},
            {5, Ops.CLOSE, 5, 2}, {1, Ops.YIELD, 0, 0}, {0, Ops.IF, 0, 29}, {2, Ops.INT, MIN, 0},
        };
        for (int[] r : rows) {
            x.add(r[0], r[1], r[2], r[3]);
        }
        int s = 0;
        for (int f = 0; f < 6; f++) {
            for (int[] r : rows) {
                if (r[0] == f) {
                    s = 31 * s + r[1] + r[2] + r[3];
                }
            }
        }
        x.snapshot();
        Checks.same("functions by numbers, then places", x.image(3), s & 255);
        SnapForge y = new SnapForge();
        y.add(0, Ops.INT, -2, 0);
        y.start(0, 0, 0);
        y.snapshot();
        Checks.same("below 0", y.image(3), 255);
        y.function(0, 0);
        y.add(0, Ops.INT, 254, 0);
        y.snapshot();
        Checks.same("255", y.image(3), 255);
        y.function(0, 0);
        y.add(0, Ops.INT, 255, 0);
        y.snapshot();
        Checks.same("256", y.image(3), 0);
        y.function(5, 2);
        y.handle(5, 0, 30, 3);
        y.snapshot();
        Checks.same("arguments and handlers are no instructions", y.image(3), 0);
    }

    private static void heads() {
        Checks.about("THE IMAGE: 83, 78, 1; the CODE SUM; the THREAD whose turn it is; how many INSTRUCTIONS it "
            + "has done in it; how many THREADS");
        SnapForge x = Ops.begun("FORK 1, FORK 1, GOTO 2");
        Ops.write(x, 1, 0, "GOTO 0");
        int[][] due = {{0, 0, 1}, {0, 1, 2}, {0, 2, 3}, {0, 3, 3}, {1, 0, 3}};
        for (int[] d : due) {
            x.snapshot();
            int sum = ((27 * 31 + 27) * 31 + 16) * 31 + 14;
            int[] bytes = {83, 78, 1, sum & 255, d[0], d[1], d[2]};
            for (int k = 0; k < bytes.length; k++) {
                Checks.same("byte " + k, x.image(k), bytes[k]);
            }
            x.run(1);
        }
        x.run(6);
        x.snapshot();
        Checks.same("thread 2", x.image(4), 2);
        Checks.same("three done", x.image(5), 3);
    }

    private static void threads() {
        Checks.about("for each: 0, how many FRAMES, these; or 1 and its VALUE; or 2 and its ERROR");
        SnapForge x = Ops.begun("FORK 1, FORK 2, GOTO 29");
        Ops.write(x, 1, 0, "INT -1, RETURN");
        Ops.write(x, 2, 0, "INT 15, THROW");
        x.handle(0, 29, 30, 29);
        x.run(8);
        x.snapshot();
        has("runs, ended, failed", x, summed(row(83, 78, 1, x.image(3), 0, 0, 3,
            0, 1, 0, 29, 0, 0, 0, 0, 0, 1, 1, 7, 0, 0, 0, 1, 1, 255, 255, 255, 255, 2, 31, 0)));
    }

    private static void frames() {
        Checks.about("how many FRAMES, these, from the lowest one on");
        SnapForge x = Ops.begun("CALL 1");
        for (int f = 1; f < 4; f++) {
            x.add(f, Ops.NOP, 0, 0);
            x.add(f, Ops.CALL, f + 1, 0);
        }
        x.run(7);
        x.snapshot();
        has("five frames", x, summed(row(83, 78, 1, x.image(3), 0, 3, 1, 0, 5,
            0, 0, 0, 0, 0, 0, 0, 0, 1, 1, 0, 0, 0, 0, 0, 0, 2, 1, 0, 0, 0, 0, 0, 0, 3, 1, 0, 0, 0, 0, 0, 0,
            4, 0, 0, 0, 0, 0, 0, 0, 0)));
        Checks.about("A FRAME: FUNCTION, PLACE, its CLOSURE or NULL as a VALUE, four LOCALS, how many VALUES are on "
            + "its STACK, these from the lowest one on");
        SnapForge y = Ops.begun("INT 9, CLOSE 5 1, APPLY");
        Ops.write(y, 5, 0, "INT 1, STORE 0, INT 3, STORE 2, INT 4, STORE 3, "
            + "INT 11, INT 12, INT 13, INT 14, INT 15, INT 16");
        y.run(15);
        y.snapshot();
        has("a full frame", y, summed(row(83, 78, 1, y.image(3), 0, 3, 1, 0, 2, 0, 2, 0, 0, 0, 0, 0, 0,
            5, 12, 4, 0, 1, 1, 0, 0, 0, 0, 1, 3, 0, 0, 0, 1, 4, 0, 0, 0, 6),
            row(1, 11, 0, 0, 0, 1, 12, 0, 0, 0, 1, 13, 0, 0, 0, 1, 14, 0, 0, 0, 1, 15, 0, 0, 0, 1, 16, 0, 0, 0),
            row(1, 4, 5, 1, 1, 9, 0, 0, 0)));
    }

    private static void endsWith(String code, int... value) {
        SnapForge x = Ops.begun(code + ", RETURN");
        x.run(300);
        x.snapshot();
        has(code, x, summed(row(83, 78, 1, x.image(3), 0, 0, 1, 1), value));
        Checks.same(code + " is read", x.load(), 1);
        x.snapshot();
        has(code + " again", x, summed(row(83, 78, 1, x.image(3), 0, 0, 1, 1), value));
    }

    private static void values() {
        Checks.about("A VALUE: 0 NULL; 1 and four BYTES, an INT, 2 and eight, a LONG, the lowest first; 3 a RECORD, "
            + "4 a CLOSURE, and its NUMBER");
        endsWith("NULL", 0, 0);
        endsWith("INT 0", 1, 0, 0, 0, 0, 0);
        endsWith("INT " + 0x04030201, 1, 1, 2, 3, 4, 0);
        endsWith("INT -1", 1, 255, 255, 255, 255, 0);
        endsWith("INT " + MIN, 1, 0, 0, 0, 128, 0);
        endsWith("INT " + MAX, 1, 255, 255, 255, 127, 0);
        endsWith("LONG 0 0", 2, 0, 0, 0, 0, 0, 0, 0, 0, 0);
        endsWith("LONG " + 0x08070605 + " " + 0x04030201, 2, 1, 2, 3, 4, 5, 6, 7, 8, 0);
        endsWith("LONG 0 -1", 2, 255, 255, 255, 255, 255, 255, 255, 255, 0);
        endsWith("LONG " + MIN + " 0", 2, 0, 0, 0, 0, 0, 0, 0, 128, 0);
        endsWith("LONG " + MIN + " -1", 2, 255, 255, 255, 255, 255, 255, 255, 127, 0);
        endsWith("NEW", 3, 0, 1, 3, 0, 0, 0);
        endsWith("CLOSE 5 0", 4, 0, 1, 4, 5, 0);
        endsWith("INT 1, NULL, CLOSE 4 2", 4, 0, 1, 4, 4, 2, 1, 1, 0, 0, 0, 0);
    }

    private static void numbersAsTheyComeUp() {
        Checks.about("OBJECTS get NUMBERS 0, 1, .. as they come up first, in this order");
        // Made in the order a to f; they come up in the image as closure d, local e, stack b; f of thread 1, a.
        SnapForge x = Ops.begun("NEW, STORE 2, NEW, CLOSE 3 0, STORE 0, CLOSE 1 0, APPLY");
        Ops.write(x, 1, 0, "NEW, STORE 0, NULL, FORK 2, GOTO 4");
        Ops.write(x, 2, 1, "NEW, RETURN");
        x.run(11 + 1);
        x.run(4);
        Checks.same("thread 1 ended", x.told(11), 1);
        x.snapshot();
        int[] lower = {0, 6, 0, 4, 0, 0, 3, 1, 0, 1, 3, 2};
        int[] upper = {1, 4, 4, 3, 3, 4, 0, 0, 0, 1, 1, 1, 0, 0, 0};
        has("numbers", x, summed(row(83, 78, 1, x.image(3), x.image(4), x.image(5), 2, 0, 2), lower, upper,
            row(1, 3, 5, 6, 4, 3, 0, 3, 0, 0, 0, 3, 0, 0, 0, 4, 1, 0, 3, 0, 0, 0, 3, 0, 0, 0)));
    }

    private static void numbersInObjects() {
        Checks.about("then those that come up first in OBJECTS, which stand by their NUMBERS: 3 and its FIELDS; "
            + "4, FUNCTION, how many VALUES it HOLDS, these");
        // Local 0 is a record whose fields are a closure, which holds two records, null, and a record with
        // the first one in it.
        SnapForge x = Ops.begun("NEW, STORE 0, LOAD 0, NEW, NEW, CLOSE 2 2, PUT 0, "
            + "LOAD 0, NEW, PUT 2, LOAD 0, GET 2, LOAD 0, PUT 1, GOTO 14");
        x.run(14);
        x.snapshot();
        has("by breadth", x, summed(row(83, 78, 1, x.image(3), 0, 2, 1, 0, 1, 0, 14, 0, 3, 0, 0, 0, 0, 0, 5,
            3, 4, 1, 0, 3, 2, 4, 2, 2, 3, 3, 3, 4, 3, 0, 3, 0, 0, 3, 0, 0, 0, 3, 0, 0, 0)));
        Checks.about("then how many OBJECTS: those that do not come up are not there");
        SnapForge y = Ops.begun("NEW, POP, NEW, STORE 1, NEW, POP, GOTO 6");
        y.run(6);
        Checks.same("three are counted", y.told(3), 3);
        y.snapshot();
        has("one is there", y, summed(row(83, 78, 1, y.image(3), 0, 2, 1, 0, 1, 0, 6, 0, 0, 3, 0, 0, 0, 0, 1,
            3, 0, 0, 0)));
        Checks.same("three are counted still", y.told(3), 3);
    }

    private static void sums() {
        Checks.about("the lowest 8 bits of the sum of all BYTES before");
        for (int n = 0; n < 256; n += 5) {
            SnapForge x = Ops.begun("INT " + n + ", RETURN");
            x.run(2);
            int size = x.snapshot();
            int sum = 0;
            for (int k = 0; k < size - 1; k++) {
                sum += x.image(k);
            }
            Checks.same("the last byte", x.image(size - 1), sum % 256);
        }
    }

    private static void largest() {
        Checks.about("THE IMAGE is a row of at most 2400 BYTES");
        SnapForge x = Ops.full();
        Checks.same("three threads", x.told(0), 3);
        Checks.same("24 objects", x.told(3), 24);
        for (int t = 0; t < 3; t++) {
            Checks.same("frames of " + t, x.told(20 + t), 5);
            Checks.same("values of " + t, x.told(40 + t), 6);
        }
        int frame = 3 + 4 * 9 + 1 + 6 * 9;
        int records = 24 * (1 + 3 * 9);
        int shorter = 24 * (9 - 2);
        int due = 7 + 3 * (2 + 5 * frame) + 1 + records + 1 - shorter;
        Checks.same("bytes", x.snapshot(), due);
        int[] before = new int[due];
        for (int k = 0; k < 60; k++) {
            before[k] = x.image(k);
        }
        Checks.same("it is read", x.load(), 3);
        Checks.same("the same again", x.snapshot(), due);
        for (int k = 0; k < 60; k++) {
            Checks.same("byte " + k, x.image(k), before[k]);
        }
        x.cut(due - 1);
        Checks.bad("without its last byte", x::load);
        Checks.same("where", x.where(), due - 1);
        Checks.same("it goes on", x.run(1), 1);
        Checks.same("with a sixth frame that does not come", x.told(30), Ops.DEEP);
    }

    private static void missing() {
        Checks.about("where BYTES are missing, the place behind the last one");
        int[] whole = summed(head(3), row(0, 2), FRAME, row(1, 30, 4, 0, 3, 1, 1, 9, 9, 9, 9, 0, 0, 1, 2, 1, 2, 3, 4,
            5, 6, 7, 8), row(1, 4, 2, 2, 31), row(3, 4, 5, 2, 4, 0, 3, 1, 3, 1, 1, 1, 1, 1, 0, 4, 2, 4, 0, 0));
        reads("whole", whole);
        for (int n = 0; n < whole.length; n++) {
            faulty("cut to " + n, n, Arrays.copyOf(whole, n));
        }
    }

    private static void firstFault() {
        Checks.about("the first BYTE that is not as said has the FAULT");
        int[] good = join(head(1), row(0, 1), FRAME, row(0));
        int[] places = {0, 1, 2, 4, 5, 6, 7, 8, 9, 10, 11, 12, 16};
        int[] nearlyGood = {84, 79, 2, 3, 4, 4, 3, 6, 6, 31, 1, 5, 7};
        for (int i = 0; i < places.length; i++) {
            int[] bytes = good.clone();
            for (int j = i; j < places.length; j++) {
                bytes[places[j]] = nearlyGood[j];
            }
            faulty("from byte " + places[i] + " on", places[i], summed(bytes));
            faulty("and a wrong sum", places[i], join(bytes, row(0)));
            faulty("and nothing behind it", places[i], Arrays.copyOf(bytes, places[i] + 1));
        }
    }

    private static void readHead() {
        Checks.about("READING: the first three");
        int[] good = join(head(1), row(2, 1, 0));
        goodAlone("byte 0", 0, good, 83);
        goodAlone("byte 1", 1, good, 78);
        goodAlone("byte 2", 2, good, 1);
    }

    private static void readCodeSum() {
        Checks.about("READING: the CODE SUM is UNKNOWN if it is not that of THE PROGRAM");
        int[] good = join(head(1), row(2, 1, 0));
        for (int b = 0; b < 256; b++) {
            SnapForge x = laid(summed(changed(good, 3, b)));
            x.add(0, Ops.INT, 199, 0);
            if (b == 200) {
                Checks.same("200", x.load(), 1);
            } else {
                Checks.unsupported("code sum " + b, x::load);
            }
            Checks.same("where of " + b, x.where(), b == 200 ? -2 : 3);
        }
        SnapForge x = laid(row(83, 78, 2, 7));
        Checks.bad("a fault before it", x::load);
        Checks.same("where", x.where(), 2);
        SnapForge y = laid(row(83, 78, 1, 7, 99, 99));
        Checks.unsupported("faults behind it", y::load);
        SnapForge w = laid(row(83, 78, 1, 7));
        Checks.unsupported("nothing behind it", w::load);
        Checks.same("where", w.where(), 3);
        SnapForge z = laid(row(83, 78, 1));
        Checks.bad("it is missing", z::load);
        Checks.same("where", z.where(), 3);
    }

    private static void readTurnAndDone() {
        int[] good = join(head(3), row(0, 1), FRAME, row(0, 1), FRAME, row(0, 1), FRAME, row(0));
        Checks.about("READING: the turn 0 to 2");
        goodAlone("turn", 4, good, 0, 1, 2);
        for (int turn = 0; turn < 3; turn++) {
            SnapForge x = reads("turn " + turn, summed(changed(good, 4, turn)));
            Checks.same("told", x.told(1), turn);
        }
        Checks.about("READING: done 0 to 3");
        goodAlone("done", 5, good, 0, 1, 2, 3);
        for (int done = 0; done < 4; done++) {
            SnapForge x = reads("done " + done, summed(changed(good, 5, done)));
            Checks.same("told", x.told(2), done);
        }
    }

    private static void readThreads() {
        Checks.about("READING: THREADS 1 to 3");
        int[] good = join(head(3), row(2, 1, 2, 2, 2, 3, 0));
        goodAlone("threads", 6, good, 1, 2, 3);
        for (int n = 1; n <= 3; n++) {
            int[] failed = {2, 1, 2, 2, 2, 3};
            SnapForge x = reads(n + " threads", summed(head(n), Arrays.copyOf(failed, 2 * n), row(0)));
            Checks.same("told", x.told(0), n);
        }
        Checks.about("READING: 0 to 2; FRAMES 1 to 5");
        int[] running = join(head(1), row(0, 5), FRAME, FRAME, FRAME, FRAME, FRAME, row(0));
        goodAlone("what it does", 7, running, 0, 1, 2);
        goodAlone("frames", 8, running, 1, 2, 3, 4, 5);
        int[] all = join(FRAME, FRAME, FRAME, FRAME, FRAME);
        for (int n = 1; n <= 5; n++) {
            SnapForge x = reads(n + " frames", summed(head(1), row(0, n), Arrays.copyOf(all, 8 * n), row(0)));
            Checks.same("told", x.told(20), n);
        }
    }

    private static void readErrors() {
        Checks.about("READING: ERRORS 1 to 7 or 16 to 31");
        int[] good = join(head(1), row(2, 1, 0));
        int[] errors = join(upTo(1, 7), upTo(16, 31));
        goodAlone("error", 8, good, errors);
        for (int error : errors) {
            SnapForge x = reads("error " + error, summed(changed(good, 8, error)));
            Checks.same("told", x.told(30), error);
        }
    }

    private static void readFrames() {
        int[] good = join(head(1), row(0, 1), FRAME, row(0));
        Checks.about("READING: FUNCTIONS 0 to 5");
        goodAlone("function", 9, good, upTo(0, 5));
        for (int f = 0; f <= 5; f++) {
            Checks.same("told", reads("function " + f, summed(changed(good, 9, f))).told(60), f);
        }
        Checks.about("READING: PLACES 0 to 30");
        goodAlone("place", 10, good, upTo(0, 30));
        for (int place = 0; place <= 30; place++) {
            Checks.same("told", reads("place " + place, summed(changed(good, 10, place))).told(50), place);
        }
        goodAlone("place in another thread", 12, join(head(2), row(2, 7, 0, 1), FRAME, row(0)), upTo(0, 30));
        goodAlone("place in an upper frame", 18, join(head(1), row(0, 2), FRAME, FRAME, row(0)), upTo(0, 30));
        Checks.about("READING: VALUES .. of a CLOSURE of a FRAME 0 or 4");
        goodAlone("closure", 11, good, 0, 4);
        reads("a closure", summed(head(1), row(0, 1, 0, 0, 4, 0, 0, 0, 0, 0, 0, 1, 4, 3, 0)));
        Checks.about("READING: STACKS 0 to 6");
        goodAlone("stack", 16, good, upTo(0, 6));
        for (int n = 0; n <= 6; n++) {
            int[] bytes = summed(changed(join(good, new int[n]), 16, n));
            Checks.same("told", reads(n + " on the stack", bytes).told(40), n);
        }
    }

    private static void readValues() {
        Checks.about("READING: VALUES 0 to 4");
        int[] good = join(head(1), row(0, 1, 0, 0, 0, 0, 0, 0, 0, 2, 0, 0, 0, 0, 0, 0, 0, 0, 0, 0));
        for (int k : new int[] {12, 13, 14, 15, 17, 18}) {
            goodAlone("byte " + k, k, good, upTo(0, 4));
        }
        goodAlone("of an ended thread", 8, ended(0, 0, 0, 0, 0, 0, 0, 0, 0, 0), upTo(0, 4));
        int[] record = ended(3, 0, 1, 3, 0, 0, 0, 0, 0, 0, 0, 0, 0, 0, 0);
        for (int k = 12; k < 15; k++) {
            goodAlone("field " + (k - 12), k, record, upTo(0, 4));
        }
        int[] closure = ended(4, 0, 1, 4, 5, 2, 0, 0, 0, 0, 0, 0, 0, 0, 0);
        goodAlone("held 0", 14, closure, upTo(0, 4));
        goodAlone("held 1", 15, closure, upTo(0, 4));
        readNulls();
        Checks.about("1 and four BYTES, an INT, 2 and eight, a LONG");
        Checks.same("an int", reads("INT", summed(ended(1, 254, 255, 255, 255, 0))).value(0), -2);
        Checks.same("the least", reads("INT", summed(ended(1, 0, 0, 0, 128, 0))).value(0), MIN);
        Checks.same("a long", reads("LONG", summed(ended(2, 254, 255, 255, 255, 0, 0, 0, 0, 0))).value(0), 4294967294L);
        Checks.same("the least", reads("LONG", summed(ended(2, 0, 0, 0, 0, 0, 0, 0, 128, 0))).value(0), Long.MIN_VALUE);
    }

    /** Numbers stood where the nulls come, in both of the worlds that a load may read into. */
    private static void readNulls() {
        Checks.about("A VALUE: 0 NULL, the same as every NULL");
        int[] numbers = summed(framed(3, 0, 1, 7, 7, 7, 7, 0, 0, 1, 2, 8, 8, 8, 8, 8, 8, 8, 8,
            1, 3, 1, 9, 9, 9, 9, 0, 0));
        int[] nulls = summed(framed(3, 0, 0, 0, 0, 1, 0, 1, 3, 0, 0, 0));
        SnapForge x = new SnapForge();
        for (int[] bytes : new int[][] {numbers, numbers, nulls}) {
            x.cut(0);
            for (int k = 0; k < bytes.length; k++) {
                x.patch(k, bytes[k], false);
            }
            x.load();
        }
        Ops.write(x, 0, 0, "NULL, SAME, LOAD 1, NULL, SAME, ADD, LOAD 0, GET 0, NULL, SAME, ADD, RETURN");
        Checks.same("it ends", x.run(300), 0);
        Checks.same("the stack's, the local's and the field's", x.value(0), 3);
        SnapForge y = reads("an ended thread's", summed(ended(0, 0)));
        Checks.unsupported("value", () -> y.value(0));
    }

    /** A running thread with 24 or more records in locals and stacks, with these numbers. */
    private static int[] manyRecords(int... numbers) {
        int frames = (numbers.length + 9) / 10;
        int[] bytes = join(head(1), row(0, frames));
        for (int i = 0; i < frames; i++) {
            int[] values = new int[0];
            for (int j = 0; j < 10; j++) {
                int k = 10 * i + j;
                values = join(values, j == 4 ? row(6) : row(), k < numbers.length ? row(3, numbers[k]) : row(0));
            }
            bytes = join(bytes, row(0, 0, 0), values);
        }
        return bytes;
    }

    private static void readNumbers() {
        Checks.about("READING: a NUMBER below 24");
        int[] records = new int[24 * 4];
        for (int i = 0; i < 24; i++) {
            records[4 * i] = 3;
        }
        int[] numbers = Arrays.copyOf(upTo(0, 23), 26);
        numbers[24] = 23;
        SnapForge x = reads("24 records in threads", summed(manyRecords(numbers), row(24), records));
        Checks.same("told", x.told(3), 24);
        numbers[24] = 24;
        // Before number 24: the head, two frames of 24 bytes, and in the third one its begin, four locals, how
        // many are on the stack and the 3 of the record.
        int place = 9 + 2 * 24 + 3 + 4 * 2 + 1 + 1;
        faulty("a 25th one", place, summed(manyRecords(numbers), row(24), records));
        goodAlone("the last number", place, join(manyRecords(numbers), row(24), records), upTo(0, 23));
        Checks.about("READING: a NUMBER .. not above how many came up before");
        goodAlone("the first one", 9, ended(3, 0, 1, 3, 0, 0, 0), 0);
        goodAlone("the second one", 15, framed(3, 0, 3, 0, 0, 0, 0, 2, 3, 0, 0, 0, 3, 0, 0, 0), 0, 1);
        goodAlone("the third one", 17, framed(3, 0, 3, 1, 3, 0, 0, 0, 3, 3, 0, 0, 0, 3, 0, 0, 0, 3, 0, 0, 0), 0, 1, 2);
        reads("the first one, again and again", summed(framed(3, 0, 3, 0, 3, 0, 3, 0, 0, 1, 3, 3, 0, 3, 0, 3, 0)));
        goodAlone("of a closure of a frame", 12, join(head(1), row(0, 1, 0, 0, 4, 0, 0, 0, 0, 0, 0, 1, 4, 0, 0)), 0);
        goodAlone("of another thread", 12, join(head(2), row(1, 3, 0, 1, 3, 0, 2, 3, 0, 0, 0, 3, 0, 0, 0)), 0, 1);
        Checks.about("READING: a NUMBER .. in OBJECTS, below how many there are");
        goodAlone("of one", 13, ended(3, 0, 1, 3, 3, 0, 0, 0), 0);
        goodAlone("of two", 13, ended(3, 0, 2, 3, 3, 0, 0, 0, 3, 0, 0, 0), 0, 1);
        goodAlone("of three, where one came up", 13, ended(3, 0, 3, 3, 3, 0, 0, 0, 3, 0, 0, 0, 3, 0, 0, 0), 0, 1);
        reads("two", summed(ended(3, 0, 2, 3, 3, 1, 0, 0, 3, 3, 1, 0, 3, 0)));
        goodAlone("that a closure holds", 15, ended(4, 0, 1, 4, 0, 1, 4, 0), 0);
    }

    private static void readSorts() {
        Checks.about("READING: a NUMBER .. of the sort (3 or 4) that it came up with first");
        faulty("a record, then a closure", 15, summed(framed(3, 0, 4, 0, 0, 0, 0, 1, 3, 0, 0, 0)));
        faulty("a closure, then a record", 15, summed(framed(4, 0, 3, 0, 0, 0, 0, 1, 4, 0, 0)));
        faulty("a closure of a frame, then a record", 14,
            summed(head(1), row(0, 1, 0, 0, 4, 0, 3, 0, 0, 0, 0, 0, 1, 4, 0, 0)));
        faulty("in another thread", 12, summed(head(2), row(1, 3, 0, 1, 4, 0, 1, 3, 0, 0, 0)));
        faulty("in a field", 13, summed(ended(3, 0, 1, 3, 4, 0, 0, 0)));
        faulty("in what is held", 15, summed(ended(4, 0, 1, 4, 0, 1, 3, 0)));
        reads("another number is another sort", summed(framed(3, 0, 4, 1, 0, 0, 0, 2, 3, 0, 0, 0, 4, 5, 0)));
        faulty("came up in a field first", 15, summed(ended(3, 0, 2, 3, 3, 1, 4, 1, 0, 3, 0, 0, 0)));
    }

    private static void readHowManyObjects() {
        Checks.about("READING: how many OBJECTS: as many as came up so far, to 24");
        goodAlone("none came up", 9, ended(0, 0, 3, 0, 0, 0), upTo(0, 24));
        goodAlone("one came up", 10, ended(3, 0, 1, 3, 0, 0, 0), upTo(1, 24));
        int[] three = framed(3, 0, 3, 1, 4, 2, 0, 0, 3, 3, 0, 0, 0, 3, 0, 0, 0, 4, 0, 0);
        goodAlone("three came up", 20, three, upTo(3, 24));
        int[] chain = new int[24 * 5 - 1];
        for (int i = 0; i < 24; i++) {
            chain[5 * i] = 3;
            if (i < 23) {
                chain[5 * i + 1] = 3;
                chain[5 * i + 2] = i + 1;
            }
        }
        SnapForge x = reads("24, one after the other", summed(ended(3, 0, 24), chain));
        Checks.same("told", x.told(3), 24);
        faulty("25", 10, summed(ended(3, 0, 25), chain));
    }

    private static void readObjects() {
        Checks.about("READING: its 3 or 4 as it came up");
        goodAlone("a record", 11, ended(3, 0, 1, 3, 0, 0, 0), 3);
        goodAlone("a closure", 11, ended(4, 0, 1, 4, 0, 0), 4);
        goodAlone("one that came up in a record", 16, ended(3, 0, 2, 3, 0, 4, 1, 0, 4, 0, 0), 4);
        goodAlone("one that came up in a closure", 16, ended(4, 0, 2, 4, 0, 1, 3, 1, 3, 0, 0, 0), 3);
    }

    private static void readUnknownObjects() {
        Checks.about("READING: or at all (an OBJECT that did not come up before it is a FAULT there)");
        goodAlone("none came up", 10, ended(0, 1, 3, 0, 0, 0));
        goodAlone("one came up of two", 15, ended(3, 0, 2, 3, 0, 0, 0, 3, 0, 0, 0));
        faulty("one that comes up in itself", 15, summed(ended(3, 0, 2, 3, 0, 0, 0, 3, 3, 1, 0, 0)));
        faulty("one that a later one knows", 15,
            summed(ended(3, 0, 3, 3, 0, 0, 0, 3, 0, 0, 0, 3, 3, 1, 0, 0)));
        faulty("where its bytes are missing", 15, ended(3, 0, 2, 3, 0, 0, 0));
        faulty("where the sum stands", 15, summed(ended(3, 0, 2, 3, 0, 0, 0)));
        reads("one that came up before it", summed(ended(3, 0, 2, 3, 0, 0, 3, 1, 3, 0, 0, 0)));
    }

    private static void readClosures() {
        Checks.about("READING: FUNCTIONS 0 to 5; HELD 0 to 2");
        int[] good = ended(4, 0, 1, 4, 0, 0);
        goodAlone("function", 12, good, upTo(0, 5));
        goodAlone("held", 13, join(good, row(0, 0)), 0, 1, 2);
        for (int f = 0; f <= 5; f++) {
            for (int n = 0; n <= 2; n++) {
                int[] bytes = join(good, new int[n]);
                reads(f + " with " + n, summed(changed(changed(bytes, 12, f), 13, n)));
            }
        }
    }

    private static void readSum() {
        Checks.about("READING: the sum");
        int[] good = summed(ended(0, 0));
        for (int b = 0; b < 256; b++) {
            int[] bytes = changed(good, 10, b);
            if (b == good[10]) {
                reads("the sum", bytes);
            } else {
                faulty("the sum " + b, 10, bytes);
            }
        }
        faulty("before the turn at last", 10, changed(changed(good, 4, 1), 10, 0));
    }

    private static void readBehind() {
        Checks.about("READING: behind that nothing");
        int[] good = summed(ended(0, 0));
        for (int b = 0; b < 256; b++) {
            faulty("behind it " + b, 11, join(good, row(b)));
        }
        faulty("two behind it", 11, join(good, row(0, 0)));
        faulty("it again", 11, join(good, good));
        faulty("before the turn at last", 11, join(summed(changed(ended(0, 0), 4, 2)), row(0)));
    }

    private static void readTurnAtLast() {
        Checks.about("READING: At last, with the FAULT at BYTE 4: the turn is not of a THREAD that is there");
        int[][] rows = {row(2, 1), row(1, 0), join(row(0, 1), FRAME)};
        for (int n = 1; n <= 3; n++) {
            for (int[] one : rows) {
                int[] all = {};
                for (int t = 0; t < n; t++) {
                    all = join(all, one);
                }
                for (int turn = 0; turn < 3; turn++) {
                    int[] bytes = summed(changed(head(n), 4, turn), all, row(0));
                    if (turn < n) {
                        Checks.same("told", reads("turn " + turn + " of " + n, bytes).told(1), turn);
                    } else {
                        faulty("turn " + turn + " of " + n, 4, bytes);
                    }
                }
            }
        }
        Checks.about("READING: or not of one that RUNS, though one does");
        for (int running = 0; running < 3; running++) {
            int[] all = {};
            for (int t = 0; t < 3; t++) {
                all = join(all, t == running ? rows[2] : rows[(t + running) % 2]);
            }
            for (int turn = 0; turn < 3; turn++) {
                int[] bytes = summed(changed(head(3), 4, turn), all, row(0));
                if (turn == running) {
                    reads("turn " + turn + ", " + running + " runs", bytes);
                } else {
                    faulty("turn " + turn + ", " + running + " runs", 4, bytes);
                }
            }
        }
    }
}
