/** The boundary cases that the document's terms name for programs, values, frames and instructions. */
public final class TermEdgesTest {
    private static final int MIN = Integer.MIN_VALUE;
    private static final int MAX = Integer.MAX_VALUE;

    private TermEdgesTest() {
    }

    public static void main(String[] args) {
        lastPlace();
        freshRecords();
        heldNumbers();
        sameValues();
        mostThreads();
        mostFrames();
        freshFrames();
        longs();
        locals();
        sums();
        quotients();
        less();
        jumps();
        fields();
        closeTakes();
        held();
        calls();
        applies();
        returns();
        thrown();
        sayings();
        forks();
        yields();
        Checks.finish("TermEdgesTest");
    }

    /** What thread 0 ends with. */
    private static long result(String code) {
        SnapForge x = Ops.begun(code);
        x.run(300);
        Checks.same(code + " ends", x.told(10), 1);
        return x.value(0);
    }

    private static int error(String code) {
        SnapForge x = Ops.begun(code);
        x.run(300);
        Checks.same(code + " fails", x.told(10), 2);
        return x.told(30);
    }

    private static void lastPlace() {
        Checks.about("CODE, a row of at most 30 INSTRUCTIONS, numbered from 0 as PLACES");
        SnapForge x = Ops.begun("INT 7, " + Ops.times(28, "NOP", "RETURN"));
        Checks.same("29 done", x.run(29), 1);
        Checks.same("the last place", x.told(50), 29);
        Checks.same("30 done", x.run(1), 0);
        Checks.same("it has an instruction", x.value(0), 7);
        SnapForge y = Ops.begun(Ops.times(30, "NOP"));
        y.handle(0, 0, 30, 0);
        Checks.same("30 done", y.run(30), 1);
        Checks.same("the place behind it", y.told(50), 30);
        Checks.same("has none", y.run(1), 0);
        Checks.same("and no handler can have it", y.told(30), Ops.BEHIND);
    }

    private static void freshRecords() {
        Checks.about("RECORDS (three FIELDS 0 to 2, each a VALUE, NULL at first)");
        for (int field = 0; field < 3; field++) {
            Checks.same("field " + field, result("NEW, GET " + field + ", NULL, SAME, RETURN"), 1);
        }
        // All of the 24 places of objects have had fields of numbers before the 25th comes.
        String spoil = "NEW, STORE 0, LOAD 0, INT 5, PUT 0, LOAD 0, INT 5, PUT 1, LOAD 0, INT 5, PUT 2";
        for (int field = 0; field < 3; field++) {
            SnapForge x = new SnapForge();
            Ops.write(x, 0, 2, spoil + ", LOAD 1, INT 1, ADD, DUP, STORE 1, INT 24, LESS, IF 0, "
                + "NULL, STORE 0, NEW, GET " + field + ", NULL, SAME, RETURN");
            x.start(0, 0, 0);
            x.run(300);
            x.run(300);
            Checks.same("field " + field + " of one in another's place", x.value(0), 1);
            Checks.same("they were looked for", x.told(3), 1);
        }
    }

    private static void heldNumbers() {
        Checks.about("CLOSURES (of a FUNCTION, with 0 to 2 VALUES that are HELD)");
        for (int f = 0; f < 6; f++) {
            for (int n = 0; n < 3; n++) {
                SnapForge x = Ops.begun(Ops.times(n, "INT 6", "CLOSE " + f + " " + n, "GOTO " + (n + 1)));
                x.run(n + 1);
                Checks.same("one value is left", x.told(40), 1);
                x.snapshot();
                Checks.same("a closure", x.image(20), 4);
                Checks.same("its function", x.image(21), f);
                Checks.same("how many it holds", x.image(22), n);
                Checks.same("and no more", x.image(-1), 24 + 5 * n);
            }
        }
    }

    private static void isSame(int due, String x, String y) {
        Checks.same(x + " and " + y, result(x + ", " + y + ", SAME, RETURN"), due);
    }

    private static void sameValues() {
        Checks.about("two VALUES are the same if both are NULL, both INTS or both LONGS of one number, "
            + "or one OBJECT");
        isSame(1, "NULL", "NULL");
        isSame(1, "LOAD 3", "NULL");
        isSame(1, "INT 0", "INT 0");
        isSame(1, "LONG 0 0", "LONG 0 0");
        isSame(1, "LONG 1 -1", "LONG 0 -1, LONG 1 0, ADD");
        isSame(0, "LONG 1 5", "LONG 2 5");
        isSame(0, "INT 5", "LONG 0 5");
        isSame(0, "LONG 0 5", "INT 5");
        isSame(0, "NULL", "INT 0");
        isSame(0, "NULL", "LONG 0 0");
        isSame(0, "INT " + MIN, "INT " + MAX);
        for (String made : new String[] {"NEW", "CLOSE 0 0"}) {
            isSame(1, made, "DUP");
            isSame(0, made, made);
            isSame(0, made, "INT 0");
            isSame(0, made, "LONG 0 0");
            isSame(0, made, "NULL");
        }
        isSame(0, "NEW", "CLOSE 0 0");
        isSame(0, "NEW, NEW, STORE 1", "LOAD 1");
    }

    private static void mostThreads() {
        Checks.about("A THREAD (0 to 2)");
        SnapForge x = Ops.begun("FORK 1, FORK 1, FORK 1");
        Ops.write(x, 1, 0, "GOTO 0");
        x.run(2);
        Checks.same("three threads", x.told(0), 3);
        x.run(1);
        Checks.same("no fourth one", x.told(0), 3);
        Checks.same("but an error", x.told(30), Ops.FULL);
    }

    private static void mostFrames() {
        Checks.about("1 to 5 FRAMES");
        SnapForge x = Ops.begun("CALL 0");
        for (int n = 1; n <= 5; n++) {
            Checks.same("frames", x.told(20), n);
            x.run(1);
        }
        Checks.same("no sixth one", x.told(20), 0);
        Checks.same("but an error", x.told(30), Ops.DEEP);
    }

    private static void freshFrames() {
        Checks.about("A PLACE (0 at first), LOCALS 0 to 3 (the first ones are its ARGUMENTS, others NULL at "
            + "first), a STACK of at most 6 VALUES, empty at first");
        // Function 1 leaves all of its frame full; function 2 has a frame in the same room.
        for (int n = 0; n <= 2; n++) {
            SnapForge x = Ops.begun("CALL 1, STORE 0, INT 30, INT 31, CALL 2, RETURN");
            Ops.write(x, 1, 0, "INT 9, DUP, DUP, DUP, STORE 0, STORE 1, STORE 2, STORE 3, "
                + Ops.times(6, "INT 8", "RETURN"));
            Ops.write(x, 2, n, "LOAD 3, RETURN");
            x.run(16 + 4);
            Checks.same("in function 2", x.told(60), 2);
            Checks.same("place", x.told(50), 0);
            Checks.same("stack", x.told(40), 0);
            x.snapshot();
            // Behind the lower frame, whose local 0 and what is left on its stack are INTS.
            int at = 9 + 2 + 1 + 5 + 3 + 1 + 5 * (2 - n);
            String due = n == 0 ? "2 0 0 0 0 0 0 0" : n == 1 ? "2 0 0 1 31 0 0 0 0 0 0 0"
                : "2 0 0 1 30 0 0 0 1 31 0 0 0 0 0 0";
            StringBuilder frame = new StringBuilder();
            for (int k = at; k < at + 8 + 4 * n; k++) {
                frame.append(k == at ? "" : " ").append(x.image(k));
            }
            Checks.same("function, place, closure, locals, stack with " + n, frame.toString(), due);
        }
        Checks.about("NULL or the CLOSURE by which it was APPLIED");
        SnapForge y = Ops.begun("INT 5, CLOSE 1 1, APPLY, POP, CALL 1, RETURN");
        Ops.write(y, 1, 0, "HELD 0, RETURN");
        y.run(5);
        Checks.same("back, after one that was applied", y.told(20), 1);
        y.run(300);
        Checks.same("a call has none", y.told(30), Ops.NOTHING);
    }

    private static void longs() {
        Checks.about("LONG: a times 2^32, and b (with its sign) more");
        Checks.same("the least", result("LONG " + MIN + " 0, RETURN"), Long.MIN_VALUE);
        Checks.same("one less wraps", result("LONG " + MIN + " -1, RETURN"), Long.MAX_VALUE);
        Checks.same("b below 0", result("LONG 1 -1, RETURN"), 4294967295L);
        Checks.same("b the least", result("LONG 0 " + MIN + ", RETURN"), MIN);
        Checks.same("b the most", result("LONG -1 " + MAX + ", RETURN"), -2147483649L);
        Checks.same("both the most", result("LONG " + MAX + " " + MAX + ", RETURN"), MAX * 4294967296L + MAX);
    }

    private static void locals() {
        Checks.about("LOAD a, STORE a (LOCAL 0 to 3)");
        String fill = "INT 10, STORE 0, INT 11, STORE 1, INT 12, STORE 2, INT 13, STORE 3, ";
        for (int a = 0; a < 4; a++) {
            Checks.same("LOAD " + a, result(fill + "LOAD " + a + ", RETURN"), 10 + a);
        }
        Checks.same("LOAD leaves it", result(fill + "LOAD 2, LOAD 2, ADD, RETURN"), 24);
        Checks.same("STORE takes x", error("INT 1, STORE 0, POP"), Ops.STACK);
    }

    private static void sums() {
        Checks.about("two INTS give an INT, INT and LONG, or two LONGS, a LONG (wrapping)");
        gives(1, MIN, "INT " + MAX, "INT 1", "ADD");
        gives(1, MAX, "INT " + MIN, "INT 1", "SUB");
        gives(1, MIN, "INT 0", "INT " + MIN, "SUB");
        gives(1, MIN, "INT " + MIN, "INT -1", "MUL");
        gives(1, 0, "INT 65536", "INT 65536", "MUL");
        gives(1, 1, "INT " + MAX, "INT " + MAX, "MUL");
        gives(2, 2147483648L, "INT " + MAX, "LONG 0 1", "ADD");
        gives(2, 2147483648L, "LONG 0 1", "INT " + MAX, "ADD");
        gives(2, -2147483649L, "INT " + MIN, "LONG 0 1", "SUB");
        gives(2, 4294967296L, "LONG 0 65536", "INT 65536", "MUL");
        gives(2, 0, "LONG 0 0", "INT 0", "MUL");
        gives(2, Long.MIN_VALUE, "LONG " + MAX + " -1", "LONG 1 1", "ADD");
        gives(2, Long.MAX_VALUE, "LONG " + MIN + " 0", "LONG 0 1", "SUB");
        gives(2, Long.MIN_VALUE, "LONG " + MIN + " 0", "LONG 0 -1", "MUL");
        gives(2, 0, "LONG 1 0", "LONG 1 0", "MUL");
        Checks.about("ADD, SUB, MUL, DIV x y: others MISFIT");
        for (String op : new String[] {"ADD", "SUB", "MUL", "DIV"}) {
            for (String other : new String[] {"NULL", "NEW", "CLOSE 0 0"}) {
                for (String number : new String[] {"INT 1", "LONG 0 1", other}) {
                    Checks.same(other, error(other + ", " + number + ", " + op), Ops.MISFIT);
                    Checks.same(other, error(number + ", " + other + ", " + op), Ops.MISFIT);
                }
            }
        }
    }

    /** Kind 1 is an INT, 2 a LONG. */
    private static void gives(int kind, long due, String x, String y, String op) {
        SnapForge forge = Ops.begun(x + ", " + y + ", " + op + ", RETURN");
        forge.run(4);
        Checks.same(x + ", " + y + ", " + op, forge.value(0), due);
        forge.snapshot();
        Checks.same(x + ", " + y + ", " + op + ": its kind", forge.image(8), kind);
    }

    private static void quotients() {
        Checks.about("DIV as in Java");
        gives(1, -3, "INT -7", "INT 2", "DIV");
        gives(1, -3, "INT 7", "INT -2", "DIV");
        gives(1, 0, "INT -1", "INT 2", "DIV");
        gives(1, MIN, "INT " + MIN, "INT -1", "DIV");
        gives(2, 2147483648L, "INT " + MIN, "LONG 0 -1", "DIV");
        gives(2, Long.MIN_VALUE, "LONG " + MIN + " 0", "INT -1", "DIV");
        gives(2, Long.MIN_VALUE, "LONG " + MIN + " 0", "LONG 0 -1", "DIV");
        gives(2, -1, "LONG 0 -3", "INT 2", "DIV");
        Checks.about("DIV by 0 ZERO");
        for (String zero : new String[] {"INT 0", "LONG 0 0"}) {
            for (String x : new String[] {"INT 0", "INT " + MIN, "LONG 0 0", "LONG " + MAX + " 1"}) {
                Checks.same(x, error(x + ", " + zero + ", DIV"), Ops.ZERO);
            }
        }
        gives(2, 4294967296L, "LONG 1 0", "INT 1", "DIV");
        gives(2, 1, "LONG 1 0", "LONG 1 0", "DIV");
        for (String op : new String[] {"ADD", "SUB", "MUL"}) {
            gives(1, op.equals("MUL") ? 0 : 3, "INT 3", "INT 0", op);
        }
        Checks.same("what is no number by 0", error("NULL, INT 0, DIV"), Ops.MISFIT);
    }

    private static void less() {
        Checks.about("LESS x y: INT 1 if x is less, else 0");
        gives(1, 0, "INT 3", "INT 3", "LESS");
        gives(1, 1, "INT 2", "INT 3", "LESS");
        gives(1, 0, "INT 3", "INT 2", "LESS");
        gives(1, 1, "INT " + MIN, "INT " + MAX, "LESS");
        gives(1, 0, "INT " + MAX, "INT " + MIN, "LESS");
        gives(1, 1, "LONG " + MIN + " 0", "LONG " + MAX + " " + MAX, "LESS");
        gives(1, 0, "LONG " + MAX + " " + MAX, "LONG " + MIN + " 0", "LESS");
        gives(1, 0, "INT 3", "LONG 0 3", "LESS");
        gives(1, 0, "LONG 0 3", "INT 3", "LESS");
        gives(1, 1, "INT " + MAX, "LONG 1 0", "LESS");
        gives(1, 1, "LONG -1 0", "INT " + MIN, "LESS");
        Checks.about("LESS x y: numbers (INTS, LONGS), else MISFIT");
        for (String other : new String[] {"NULL", "NEW", "CLOSE 0 0"}) {
            Checks.same(other, error(other + ", INT 1, LESS"), Ops.MISFIT);
            Checks.same(other, error("LONG 0 1, " + other + ", LESS"), Ops.MISFIT);
            Checks.same(other, error(other + ", DUP, LESS"), Ops.MISFIT);
        }
    }

    private static void jumps() {
        Checks.about("IF b: goes on at PLACE b if it is not 0");
        for (int n : new int[] {1, -1, 256, MIN, MAX}) {
            SnapForge x = Ops.begun("INT " + n + ", IF 29");
            x.run(2);
            Checks.same("IF of " + n, x.told(50), 29);
            Checks.same("takes it", x.told(40), 0);
        }
        SnapForge y = Ops.begun("INT 0, IF 29");
        y.run(2);
        Checks.same("IF of 0", y.told(50), 2);
        Checks.same("takes it", y.told(40), 0);
        Checks.about("IF b: takes INT x, else MISFIT");
        for (String other : new String[] {"LONG 0 1", "LONG 0 0", "NULL", "NEW", "CLOSE 0 0"}) {
            Checks.same(other, error(other + ", IF 0"), Ops.MISFIT);
        }
        Checks.about("GOTO b");
        SnapForge z = Ops.begun("GOTO 29");
        z.run(1);
        Checks.same("the last place", z.told(50), 29);
        SnapForge w = Ops.begun("NOP, GOTO 0");
        w.run(2);
        Checks.same("the first place", w.told(50), 0);
    }

    private static void fields() {
        Checks.about("PUT a: takes x and y, which becomes FIELD a of x");
        for (int a = 0; a < 3; a++) {
            StringBuilder code = new StringBuilder("NEW, STORE 0, ");
            for (int other = 0; other < 3; other++) {
                code.append("LOAD 0, INT ").append(10 + other).append(", PUT ").append(other).append(", ");
            }
            Checks.same("field " + a, result(code + "LOAD 0, GET " + a + ", RETURN"), 10 + a);
        }
        Checks.same("the record itself", result("NEW, DUP, DUP, PUT 1, DUP, GET 1, SAME, RETURN"), 1);
        Checks.same("null again", result("NEW, STORE 0, LOAD 0, INT 1, PUT 2, LOAD 0, NULL, PUT 2, "
            + "LOAD 0, GET 2, NULL, SAME, RETURN"), 1);
        SnapForge x = Ops.begun("NEW, NULL, PUT 0, GOTO 3");
        x.run(3);
        Checks.same("both are taken", x.told(40), 0);
        Checks.about("GET, PUT: NOTHING, if x is NULL, MISFIT if it is no RECORD");
        for (int a = 0; a < 3; a++) {
            Checks.same("GET of null", error("NULL, GET " + a), Ops.NOTHING);
            Checks.same("PUT into null", error("NULL, NEW, PUT " + a), Ops.NOTHING);
            Checks.same("PUT of null into null", error("NULL, NULL, PUT " + a), Ops.NOTHING);
            for (String other : new String[] {"INT 0", "LONG 0 0", "CLOSE 0 0"}) {
                Checks.same(other, error(other + ", GET " + a), Ops.MISFIT);
                Checks.same(other, error(other + ", NEW, PUT " + a), Ops.MISFIT);
                Checks.same(other, error(other + ", NULL, PUT " + a), Ops.MISFIT);
            }
        }
    }

    private static void closeTakes() {
        Checks.about("CLOSE a b: takes b (0 to 2) VALUES, gives a CLOSURE that HOLDS them (the one on top last)");
        for (int n = 0; n <= 2; n++) {
            SnapForge x = Ops.begun("INT 1, INT 2, INT 3, CLOSE 1 " + n + ", GOTO 4");
            x.run(4);
            Checks.same("values left with " + n, x.told(40), 4 - n);
        }
        SnapForge y = Ops.begun("INT 1, INT 2, INT 3, CLOSE 1 2, APPLY, RETURN");
        Ops.write(y, 1, 0, "HELD 0, SAY, HELD 1, SAY, NULL, RETURN");
        y.run(300);
        Checks.same("held 0", y.said(0), 2);
        Checks.same("held 1, the one on top", y.said(1), 3);
    }

    private static void held() {
        Checks.about("HELD a: NOTHING without one, or if it has none such");
        for (int a = 0; a < 2; a++) {
            Checks.same("without a closure", error("HELD " + a), Ops.NOTHING);
            for (int n = 0; n <= 2; n++) {
                SnapForge x = Ops.begun(Ops.times(n, "INT 7", "CLOSE 1 " + n, "APPLY", "RETURN"));
                Ops.write(x, 1, 0, "HELD " + a + ", RETURN");
                x.run(300);
                Checks.same("HELD " + a + " of " + n, x.told(30), a < n ? 0 : Ops.NOTHING);
            }
        }
        // The object in whose place the second one comes held two.
        SnapForge y = Ops.begun("INT 1, INT 2, CLOSE 1 2, RETURN");
        Ops.write(y, 1, 0, "HELD 1, RETURN");
        Ops.write(y, 2, 0, "INT 3, CLOSE 1 1, APPLY, RETURN");
        y.run(300);
        y.start(2, 0, 0);
        y.run(300);
        Checks.same("one in another's place", y.told(30), Ops.NOTHING);
        SnapForge z = Ops.begun("NULL, CLOSE 1 1, APPLY, RETURN");
        Ops.write(z, 1, 0, "HELD 0, RETURN");
        z.run(300);
        Checks.same("a null that is held is one", z.told(10), 1);
    }

    private static void calls() {
        Checks.about("CALL a: FUNCTION a in a new FRAME, with its ARGUMENTS from the STACK (the one on top last)");
        for (int n = 0; n <= 2; n++) {
            SnapForge x = Ops.begun("INT 1, INT 2, INT 3, CALL 5, GOTO 4");
            Ops.write(x, 5, n, "LOAD 0, LOAD 1, GOTO 2");
            x.run(3);
            x.run(1);
            Checks.same("the new frame", x.told(20), 2);
            Checks.same("of function 5", x.told(60), 5);
            Ops.write(x, 5, n, "NULL, RETURN");
            x.run(2);
            Checks.same("what the lower one kept, and the null", x.told(40), 3 - n + 1);
        }
        SnapForge y = Ops.begun("INT 1, INT 20, INT 3, CALL 5, ADD, RETURN");
        Ops.write(y, 5, 2, "LOAD 0, LOAD 1, SUB, RETURN");
        y.run(300);
        Checks.same("1 + (20 - 3)", y.value(0), 18);
    }

    private static void applies() {
        Checks.about("APPLY: takes x (NOTHING if it is NULL, MISFIT if it is no CLOSURE)");
        Checks.same("null", error("NULL, APPLY"), Ops.NOTHING);
        for (String other : new String[] {"INT 0", "LONG 0 0", "NEW"}) {
            Checks.same(other, error(other + ", APPLY"), Ops.MISFIT);
        }
        Checks.about("APPLY: then the ARGUMENTS of its FUNCTION, likewise in a new FRAME, with this CLOSURE");
        for (int n = 0; n <= 2; n++) {
            SnapForge x = Ops.begun("INT 1, INT 2, INT 3, CLOSE 5 0, APPLY, GOTO 5");
            Ops.write(x, 5, n, "NULL, RETURN");
            x.run(5);
            Checks.same("the new frame", x.told(20), 2);
            x.run(2);
            Checks.same("what the lower one kept, and the null", x.told(40), 3 - n + 1);
        }
        SnapForge y = Ops.begun("INT 1, INT 20, INT 3, INT 100, CLOSE 5 1, APPLY, ADD, RETURN");
        Ops.write(y, 5, 2, "LOAD 0, LOAD 1, SUB, HELD 0, MUL, RETURN");
        y.run(300);
        Checks.same("1 + (20 - 3) * 100", y.value(0), 1701);
    }

    private static void returns() {
        Checks.about("RETURN: takes x; the FRAME ends; x comes onto the STACK of the one below, which goes on "
            + "behind its CALL or APPLY");
        for (String enter : new String[] {"NOP, CALL 1", "CLOSE 1 0, APPLY"}) {
            SnapForge x = Ops.begun("INT 5, " + enter + ", SUB, RETURN");
            Ops.write(x, 1, 0, "INT 7, INT 8, INT 3, RETURN");
            x.run(7);
            Checks.same("one frame", x.told(20), 1);
            Checks.same("behind", x.told(50), 3);
            Checks.same("x alone came", x.told(40), 2);
            x.run(2);
            Checks.same("5 - 3", x.value(0), 2);
        }
        Checks.about("RETURN: without one the THREAD is ENDED with x");
        SnapForge y = Ops.begun("INT 7, INT 8, RETURN");
        Checks.same("none runs", y.run(3), 0);
        Checks.same("ended", y.told(10), 1);
        Checks.same("no frames", y.told(20), 0);
        Checks.same("with x", y.value(0), 8);
    }

    private static void thrown() {
        Checks.about("THROW: the ERROR 16 and the lowest four bits of x");
        for (int n : new int[] {0, 1, 14, 15, 16, 17, 31, 32, -1, -16, -17, MIN, MAX}) {
            Checks.same("THROW of " + n, error("INT " + n + ", THROW"), 16 + Math.floorMod(n, 16));
        }
        Checks.about("THROW: takes INT x, else MISFIT");
        for (String other : new String[] {"LONG 0 1", "NULL", "NEW", "CLOSE 0 0"}) {
            Checks.same(other, error(other + ", THROW"), Ops.MISFIT);
        }
    }

    private static void sayings() {
        Checks.about("SAY: takes x, an INT or LONG, else MISFIT: it is SAID");
        SnapForge x = Ops.begun("INT " + MIN + ", SAY, LONG " + MAX + " -1, SAY, GOTO 4");
        x.run(4);
        Checks.same("an int", x.said(0), MIN);
        Checks.same("a long", x.said(1), MAX * 4294967296L - 1);
        Checks.same("taken", x.told(40), 0);
        for (String other : new String[] {"NULL", "NEW", "CLOSE 0 0"}) {
            SnapForge y = Ops.begun(other + ", SAY");
            y.run(2);
            Checks.same(other, y.told(30), Ops.MISFIT);
            Checks.same(other + " is not said", y.told(5), 0);
        }
    }

    private static void forks() {
        Checks.about("FORK a: a new THREAD (its number is how many there were) .. with ARGUMENTS from the STACK; "
            + "that number, an INT, comes");
        SnapForge x = Ops.begun("INT 4, INT 50, INT 6, FORK 1, SAY, INT 7, FORK 2, SAY, RETURN");
        Ops.write(x, 1, 2, "LOAD 0, LOAD 1, SUB, RETURN");
        Ops.write(x, 2, 1, "LOAD 0, RETURN");
        x.run(4);
        Checks.same("its number and what was below", x.told(40), 2);
        Checks.same("it is there", x.told(11), 0);
        Checks.same("with one frame", x.told(21), 1);
        Checks.same("of its function", x.told(61), 1);
        Checks.same("an empty stack", x.told(41), 0);
        Checks.same("at place 0", x.told(51), 0);
        x.run(300);
        Checks.same("the first number", x.said(0), 1);
        Checks.same("the second number", x.said(1), 2);
        Checks.same("what lay below", x.value(0), 4);
        Checks.same("two arguments, the one on top last", x.value(1), 44);
        Checks.same("one argument", x.value(2), 7);
        // The threads of the latest start ended and failed; those of the next one are new.
        SnapForge y = Ops.begun("FORK 1, FORK 2, GOTO 2");
        Ops.write(y, 1, 0, "NULL, RETURN");
        Ops.write(y, 2, 0, "POP");
        for (int i = 0; i < 2; i++) {
            y.start(0, 0, 0);
            y.run(2);
            Checks.same("thread 1 runs", y.told(11), 0);
            Checks.same("thread 2 runs", y.told(12), 0);
            Checks.same("without an error", y.told(32), 0);
            y.run(20);
            Checks.same("thread 1 ended", y.told(11), 1);
            Checks.same("thread 2 failed", y.told(12), 2);
        }
    }

    private static void yields() {
        Checks.about("YIELD");
        SnapForge x = Ops.begun("FORK 0, YIELD, NOP");
        x.run(2);
        Checks.same("the stack stays", x.told(40), 1);
        Checks.same("it goes on behind", x.told(50), 2);
        Checks.same("the other one's turn", x.told(1), 1);
    }
}
