/** The boundary cases that the document names for objects: how they are counted, and looked for with 24. */
public final class HeapEdgesTest {
    private HeapEdgesTest() {
    }

    public static void main(String[] args) {
        counted();
        lookedForWith24();
        locals();
        stacks();
        closuresOfFrames();
        valuesOfEnded();
        otherThreads();
        foundFromObjects();
        lostCycles();
        lostWithFrames();
        lostFromStacks();
        fullOnlyWith24();
        fullIsNotForEver();
        beforeCloseTakes();
        sameObjectsStay();
        countedAfterLoad();
        roomAfterStart();
        roomAfterLoad();
        roomAfterSearch();
        Checks.finish("HeapEdgesTest");
    }

    /** Code that makes and loses records for ever, for this place. */
    private static String litter(int place) {
        return "NEW, POP, GOTO " + place;
    }

    /** How many objects stay when they are looked for; the program makes some till then. */
    private static int found(SnapForge x) {
        int before = x.told(3);
        for (int i = 0; i < 200; i++) {
            x.run(1);
            int now = x.told(3);
            if (now < before) {
                Checks.same("there were 24", before, 24);
                return now - 1;
            }
            before = now;
        }
        return -1;
    }

    private static void counted() {
        Checks.about("OBJECTS are counted: NEW and CLOSE make one more");
        SnapForge x = Ops.begun("NEW, POP, CLOSE 0 0, POP, GOTO 0");
        for (int n = 1; n <= 12; n++) {
            x.run(1);
            Checks.same("after NEW", x.told(3), 2 * n - 1);
            x.run(1);
            Checks.same("a lost one is counted", x.told(3), 2 * n - 1);
            x.run(1);
            Checks.same("after CLOSE", x.told(3), 2 * n);
            x.run(2);
        }
    }

    private static void lookedForWith24() {
        Checks.about("With 24 they are looked for first");
        for (String make : new String[] {"NEW", "CLOSE 0 0"}) {
            SnapForge x = Ops.begun(make + ", POP, GOTO 0");
            x.run(23 * 3);
            Checks.same("23 are there", x.told(3), 23);
            x.run(1);
            Checks.same("the 24th comes without a search", x.told(3), 24);
            x.run(2);
            Checks.same("24 are there", x.told(3), 24);
            x.run(1);
            Checks.same("none is found, one comes", x.told(3), 1);
        }
    }

    private static void locals() {
        Checks.about("those stay that are found from .. LOCALS .. of FRAMES");
        for (int a = 0; a < 4; a++) {
            SnapForge x = Ops.begun("NEW, STORE " + a + ", " + litter(2));
            Checks.same("local " + a, found(x), 1);
            SnapForge y = Ops.begun("NEW, STORE " + a + ", CALL 1");
            Ops.write(y, 1, 0, litter(0));
            Checks.same("local " + a + " of a lower frame", found(y), 1);
        }
        SnapForge z = Ops.begun("NEW, STORE 0, NEW, STORE 1, CLOSE 0 0, STORE 2, NEW, STORE 3, " + litter(8));
        Checks.same("four locals", found(z), 4);
        SnapForge w = Ops.begun("NEW, STORE 0, LOAD 0, STORE 1, " + litter(4));
        Checks.same("one that is found twice", found(w), 1);
    }

    private static void stacks() {
        Checks.about("those stay that are found from .. STACKS of FRAMES");
        for (int n = 1; n <= 5; n++) {
            SnapForge x = Ops.begun(Ops.times(n, "NEW", litter(n)));
            Checks.same(n + " on the stack", found(x), n);
        }
        SnapForge y = Ops.begun(Ops.times(6, "NEW", "CALL 1"));
        Ops.write(y, 1, 0, litter(0));
        Checks.same("six on the stack of a lower frame", found(y), 6);
        SnapForge z = Ops.begun("NEW, CALL 1");
        Ops.write(z, 1, 0, "NEW, CALL 2");
        Ops.write(z, 2, 0, "NEW, CALL 3");
        Ops.write(z, 3, 0, "NEW, CALL 4");
        Ops.write(z, 4, 0, "NEW, " + litter(1));
        Checks.same("one on each of five", found(z), 5);
    }

    private static void closuresOfFrames() {
        Checks.about("those stay that are found from CLOSURES .. of FRAMES");
        SnapForge x = Ops.begun("CLOSE 1 0, APPLY");
        Ops.write(x, 1, 0, litter(0));
        Checks.same("of the uppermost one", found(x), 1);
        SnapForge y = Ops.begun("NEW, NEW, CLOSE 1 2, APPLY");
        Ops.write(y, 1, 0, "CALL 2");
        Ops.write(y, 2, 0, litter(0));
        Checks.same("of a lower one, with what it holds", found(y), 3);
    }

    private static void valuesOfEnded() {
        Checks.about("those stay that are found from .. VALUES of THREADS that are ENDED");
        for (String made : new String[] {"NEW", "CLOSE 0 0"}) {
            SnapForge x = Ops.begun("FORK 1, " + litter(1));
            Ops.write(x, 1, 0, made + ", RETURN");
            Checks.same(made, found(x), 1);
            Checks.same("it ended", x.told(11), 1);
        }
        SnapForge y = Ops.begun("FORK 1, FORK 1, " + litter(2));
        Ops.write(y, 1, 0, "NEW, DUP, NEW, PUT 0, RETURN");
        Checks.same("two threads, with what is in them", found(y), 4);
    }

    private static void otherThreads() {
        Checks.about("FRAMES of all THREADS");
        SnapForge x = Ops.begun("FORK 1, FORK 2, NOP, NOP, " + litter(4));
        Ops.write(x, 1, 0, "NEW, STORE 3, NEW, GOTO 3");
        Ops.write(x, 2, 0, "CLOSE 3 0, APPLY");
        Ops.write(x, 3, 0, "GOTO 0");
        Checks.same("a local and a stack of one, a closure of another", found(x), 3);
    }

    private static void foundFromObjects() {
        Checks.about("and from OBJECTS so found");
        for (int a = 0; a < 3; a++) {
            SnapForge x = Ops.begun("NEW, STORE 0, LOAD 0, NEW, PUT " + a + ", " + litter(5));
            Checks.same("field " + a, found(x), 2);
        }
        SnapForge y = Ops.begun("NEW, NEW, CLOSE 0 2, STORE 0, " + litter(4));
        Checks.same("two that are held", found(y), 3);
        SnapForge z = Ops.begun("NEW, STORE 0, LOAD 0, LOAD 0, PUT 0, LOAD 0, LOAD 0, CLOSE 0 1, PUT 1, " + litter(9));
        Checks.same("a circle", found(z), 2);
        // Local 0 is the first of a row of ten, each in field 2 of the one before it.
        SnapForge w = new SnapForge();
        Ops.write(w, 0, 2, "NEW, DUP, LOAD 0, PUT 2, STORE 0, LOAD 1, INT 1, SUB, DUP, STORE 1, IF 0, " + litter(11));
        w.start(0, 0, 10);
        w.run(110);
        Checks.same("ten are there", w.told(3), 10);
        Checks.same("a long way", found(w), 10);
    }

    private static void lostCycles() {
        Checks.about("those stay that are found: not those that only one another know");
        SnapForge x = Ops.begun("NEW, STORE 0, LOAD 0, NEW, PUT 0, LOAD 0, GET 0, LOAD 0, PUT 0, NULL, STORE 0, "
            + litter(11));
        x.run(11);
        Checks.same("two are there", x.told(3), 2);
        Checks.same("none is found", found(x), 0);
        SnapForge y = Ops.begun("NEW, DUP, STORE 1, STORE 0, LOAD 0, NEW, PUT 1, LOAD 0, NULL, PUT 1, " + litter(10));
        Checks.same("what a field had before", found(y), 1);
    }

    private static void lostWithFrames() {
        Checks.about("those stay that are found from FRAMES: not from those that ended");
        SnapForge x = Ops.begun("CALL 1, POP, " + litter(2));
        Ops.write(x, 1, 0, "NEW, STORE 0, NEW, NEW, CLOSE 2 1, APPLY, RETURN");
        Ops.write(x, 2, 0, "INT 1, RETURN");
        Checks.same("of frames that returned", found(x), 0);
        SnapForge y = Ops.begun("FORK 1, POP, " + litter(2));
        Ops.write(y, 1, 0, "NEW, STORE 0, NEW, POP, POP");
        Checks.same("of a thread that failed", found(y), 0);
        Checks.same("it failed", y.told(11), 2);
        SnapForge z = Ops.begun("FORK 1, POP, " + litter(2));
        Ops.write(z, 1, 0, "NEW, STORE 0, NEW, INT 1, RETURN");
        Checks.same("of a thread that ended", found(z), 0);
        Checks.same("it ended", z.told(11), 1);
        SnapForge w = Ops.begun("CALL 1, NOP, " + litter(2));
        Ops.write(w, 1, 0, "NEW, NEW, STORE 0, THROW");
        w.handle(0, 0, 1, 2);
        Checks.same("of a frame that an error ended", found(w), 0);
    }

    private static void lostFromStacks() {
        Checks.about("those stay that are found from STACKS: not what was taken from them");
        SnapForge x = Ops.begun(Ops.times(6, "NEW", Ops.times(6, "POP"), litter(12)));
        Checks.same("taken", found(x), 0);
        SnapForge y = Ops.begun(Ops.times(5, "NEW", "THROW", litter(6)));
        y.handle(0, 5, 6, 6);
        Checks.same("gone with an error", found(y), 0);
        SnapForge z = Ops.begun("NEW, NEW, CALL 1");
        Ops.write(z, 1, 2, "NULL, STORE 0, NULL, STORE 1, " + litter(4));
        Checks.same("taken as arguments", found(z), 0);
    }

    private static void fullOnlyWith24() {
        Checks.about("FULL only if these are 24");
        for (String make : new String[] {"NEW", "CLOSE 0 0"}) {
            // A row of so many in local 0, some that are lost till there are 24, and one more.
            for (int n = 23; n <= 24; n++) {
                SnapForge x = new SnapForge();
                Ops.write(x, 0, 2, "NEW, DUP, LOAD 0, PUT 0, STORE 0, LOAD 1, INT 1, SUB, DUP, STORE 1, IF 0, "
                    + (n == 23 ? "NEW, POP, " : "") + make + ", GOTO " + (n == 23 ? 14 : 12));
                x.start(0, 0, n);
                x.run(n * 11 + (n == 23 ? 2 : 0));
                Checks.same("24 are there", x.told(3), 24);
                x.run(1);
                Checks.same(make + " with " + n + " found", x.told(30), n == 23 ? 0 : Ops.FULL);
                Checks.same("how many are there then", x.told(3), 24);
            }
        }
    }

    private static void fullIsNotForEver() {
        Checks.about("FULL only if these are 24: when fewer are found there is room again");
        SnapForge x = Ops.begun("NEW, DUP, LOAD 0, PUT 0, STORE 0, GOTO 0, LOAD 0, GET 0, STORE 0, NEW, GOTO 10");
        x.handle(0, 0, 1, 6);
        x.run(24 * 6);
        Checks.same("24 are there", x.told(3), 24);
        x.run(1);
        Checks.same("the error is handled", x.told(50), 6);
        Checks.same("24 are there still", x.told(3), 24);
        x.run(3);
        Checks.same("one is lost, and counted", x.told(3), 24);
        x.run(1);
        Checks.same("23 and a new one", x.told(3), 24);
        Checks.same("no error", x.told(50), 10);
    }

    private static void beforeCloseTakes() {
        Checks.about("With 24 they are looked for first (before CLOSE takes anything)");
        for (int taken = 1; taken <= 2; taken++) {
            // So many are on the stack alone, the others in a row in local 0.
            SnapForge x = new SnapForge();
            Ops.write(x, 0, 2, "NEW, DUP, LOAD 0, PUT 0, STORE 0, LOAD 1, INT 1, SUB, DUP, STORE 1, IF 0, "
                + Ops.times(taken, "NEW", "CLOSE 0 " + taken));
            x.start(0, 0, 24 - taken);
            x.run((24 - taken) * 11 + taken);
            Checks.same("24 are there", x.told(3), 24);
            Checks.same("some on the stack", x.told(40), taken);
            x.run(1);
            Checks.same("those that it would take are found", x.told(30), Ops.FULL);
        }
        SnapForge y = new SnapForge();
        Ops.write(y, 0, 2, "NEW, POP, LOAD 1, INT 1, SUB, DUP, STORE 1, IF 0, NEW, NEW, CLOSE 1 2, APPLY, RETURN");
        Ops.write(y, 1, 0, "HELD 0, INT 4, PUT 0, HELD 1, INT 5, PUT 0, NEW, HELD 0, GET 0, HELD 1, GET 0, MUL, RETURN");
        y.start(0, 0, 22);
        y.run(22 * 8 + 2);
        Checks.same("24 are there", y.told(3), 24);
        y.run(1);
        Checks.same("two that stay, and the closure", y.told(3), 3);
        y.run(300);
        Checks.same("they are held, and no others' place", y.value(0), 20);
    }

    private static void sameObjectsStay() {
        Checks.about("those stay: with their FIELDS, and as the same OBJECTS");
        SnapForge x = Ops.begun("NEW, POP, NEW, DUP, STORE 0, INT 77, PUT 1, LOAD 0, STORE 1, NEW, STORE 2, "
            + "NEW, POP, LOAD 0, LOAD 1, SAME, SAY, LOAD 0, LOAD 2, SAME, SAY, LOAD 0, GET 1, SAY, GOTO 11");
        x.run(11);
        for (int i = 0; i < 5; i++) {
            x.run(14 * 12);
        }
        Checks.same("many rounds", x.told(5), 180);
        for (int k = 0; k < 40; k++) {
            Checks.same("said " + k, x.said(k), k % 3 == 0 ? 1 : k % 3 == 1 ? 0 : 77);
        }
        x.run(8);
        x.snapshot();
        int at = 9 + 2 + 1;
        int[] due = {3, 0, 3, 0, 3, 1};
        for (int i = 0; i < due.length; i++) {
            Checks.same("byte " + i + " of the locals", x.image(at + i), due[i]);
        }
    }

    private static void countedAfterLoad() {
        Checks.about("OBJECTS become as THE IMAGE says: those that are lost are not in it");
        SnapForge x = Ops.begun("NEW, STORE 0, " + litter(2));
        x.run(2 + 20 * 3);
        Checks.same("21 are there", x.told(3), 21);
        x.snapshot();
        Checks.same("after snapshot, too", x.told(3), 21);
        x.load();
        Checks.same("one is read", x.told(3), 1);
        x.run(23 * 3);
        Checks.same("there was room for 23", x.told(3), 24);
        x.run(1);
        Checks.same("and then they are looked for", x.told(3), 2);
    }

    /** Makes 24 records in a row that begins in local 1, is at place 14 then, loses them and begins anew. */
    private static SnapForge makerOf24() {
        SnapForge x = new SnapForge();
        Ops.write(x, 0, 1, "NEW, DUP, LOAD 1, PUT 0, DUP, LOAD 0, PUT 1, STORE 1, LOAD 0, INT 1, SUB, DUP, STORE 0, "
            + "IF 0, NULL, STORE 1, INT 24, STORE 0, GOTO 0");
        x.start(0, 24, 0);
        return x;
    }

    private static void makesAll(String what, SnapForge x) {
        x.run(300);
        x.run(24 * 14 - 300);
        Checks.same(what + ": place", x.told(50), 14);
        Checks.same(what + ": counted", x.told(3), 24);
        x.snapshot();
        int at = 9 + 3 + 5 + 2 + 2 + 1;
        Checks.same(what + ": in the image", x.image(at), 24);
        at++;
        for (int i = 0; i < 24; i++) {
            Checks.same(what + ": a record", x.image(at), 3);
            Checks.same(what + ": the next one in it", x.image(at + 1), i < 23 ? 3 : 0);
            at += i < 23 ? 3 : 2;
            Checks.same(what + ": its own number in it", x.image(at + 1), i + 1);
            at += 6;
        }
    }

    private static void roomAfterStart() {
        Checks.about("start: no OBJECTS counted: there is room for 24");
        SnapForge x = makerOf24();
        makesAll("at first", x);
        x.start(0, 24, 0);
        makesAll("after a start", x);
    }

    private static void roomAfterLoad() {
        Checks.about("load: OBJECTS become as THE IMAGE says: there is room for the others");
        SnapForge x = makerOf24();
        int size = x.snapshot();
        int[] bytes = new int[size];
        for (int k = 0; k < size; k++) {
            bytes[k] = x.image(k);
        }
        for (int i = 0; i < 3; i++) {
            makesAll("load " + i, x);
            x.cut(0);
            for (int k = 0; k < size; k++) {
                x.patch(k, bytes[k], false);
            }
            x.load();
            Checks.same("none is there", x.told(3), 0);
        }
    }

    private static void roomAfterSearch() {
        Checks.about("those stay that are found: there is room for the others");
        SnapForge x = makerOf24();
        makesAll("at first", x);
        x.run(5);
        makesAll("after all were lost", x);
        // Twelve of them stay, each second one.
        SnapForge y = Ops.begun("NEW, POP, NEW, DUP, LOAD 1, PUT 0, STORE 1, GOTO 0");
        y.run(12 * 8);
        Checks.same("24 are there", y.told(3), 24);
        y.run(1);
        Checks.same("12 stay, one comes", y.told(3), 13);
        y.run(7 + 8 * 5);
        Checks.same("all there is room for", y.told(3), 24);
        y.snapshot();
        int at = 9 + 3 + 1 + 2 + 2 + 1;
        Checks.same("as many are in the image as were kept", y.image(at), 18);
    }
}
