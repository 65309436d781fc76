import java.util.ArrayList;
import java.util.Collections;
import java.util.List;

/** The instructions by their names, and a short way to write programs. */
final class Ops {
    static final int NOP = 0;
    static final int INT = 1;
    static final int LONG = 2;
    static final int NULL = 3;
    static final int LOAD = 4;
    static final int STORE = 5;
    static final int POP = 6;
    static final int DUP = 7;
    static final int ADD = 8;
    static final int SUB = 9;
    static final int MUL = 10;
    static final int DIV = 11;
    static final int LESS = 12;
    static final int SAME = 13;
    static final int GOTO = 14;
    static final int IF = 15;
    static final int NEW = 16;
    static final int GET = 17;
    static final int PUT = 18;
    static final int CLOSE = 19;
    static final int HELD = 20;
    static final int CALL = 21;
    static final int APPLY = 22;
    static final int RETURN = 23;
    static final int THROW = 24;
    static final int SAY = 25;
    static final int FORK = 26;
    static final int YIELD = 27;

    static final int ZERO = 1;
    static final int MISFIT = 2;
    static final int NOTHING = 3;
    static final int FULL = 4;
    static final int DEEP = 5;
    static final int STACK = 6;
    static final int BEHIND = 7;

    private static final List<String> NAMES = List.of(
        "NOP", "INT", "LONG", "NULL", "LOAD", "STORE", "POP", "DUP", "ADD", "SUB", "MUL", "DIV", "LESS", "SAME",
        "GOTO", "IF", "NEW", "GET", "PUT", "CLOSE", "HELD", "CALL", "APPLY", "RETURN", "THROW", "SAY", "FORK",
        "YIELD");

    private Ops() {
    }

    /** An instruction: op, and a and b where it has them. */
    static int[] op(int... parts) {
        return parts;
    }

    /** Function f takes so many arguments and has this code. */
    static SnapForge code(SnapForge x, int f, int arguments, int[]... instructions) {
        x.function(f, arguments);
        for (int[] i : instructions) {
            int op = i[0];
            boolean bAlone = op == GOTO || op == IF;
            int a = !bAlone && i.length > 1 ? i[1] : 0;
            int b = bAlone ? i[1] : i.length > 2 ? i[2] : 0;
            x.add(f, op, a, b);
        }
        return x;
    }

    /** A new object whose function 0 without arguments has this code, and is started. */
    static SnapForge started(int[]... instructions) {
        SnapForge x = code(new SnapForge(), 0, 0, instructions);
        x.start(0, 0, 0);
        return x;
    }

    /** Function f takes so many arguments and has this code, as in "INT 5, LONG 1 -1, GOTO 0". */
    static SnapForge write(SnapForge x, int f, int arguments, String text) {
        String[] lines = text.isBlank() ? new String[0] : text.split(",");
        int[][] instructions = new int[lines.length][];
        for (int i = 0; i < lines.length; i++) {
            String[] words = lines[i].trim().split(" ");
            int[] parts = new int[words.length];
            parts[0] = NAMES.indexOf(words[0]);
            for (int j = 1; j < words.length; j++) {
                parts[j] = Integer.parseInt(words[j]);
            }
            instructions[i] = parts;
        }
        return code(x, f, arguments, instructions);
    }

    /** A new object whose function 0 without arguments has this code, and is started. */
    static SnapForge begun(String text) {
        SnapForge x = write(new SnapForge(), 0, 0, text);
        x.start(0, 0, 0);
        return x;
    }

    /**
     * Three threads with five frames each, all locals and stacks full of longs, but for one value
     * each, from which eight records hang in a chain, full of longs otherwise; made with 36 calls.
     * The threads go side by side, so that with the last YIELD all of them stand before their CALL.
     */
    static SnapForge full() {
        SnapForge x = begun("FORK 0, LONG 1 1, STORE 0, LONG 1 1, STORE 1, LONG 1 1, STORE 2, LONG 1 1, STORE 3, "
            + "NEW, DUP, LOAD 0, PUT 0, DUP, LONG 1 1, PUT 1, DUP, LONG 1 1, PUT 2, STORE 0, GOTO 9, "
            + "POP, LONG 1 1, DUP, DUP, DUP, DUP, DUP, YIELD, CALL 0");
        x.handle(0, 0, 1, 1);
        x.handle(0, 9, 10, 21);
        x.run(300);
        x.run(270);
        return x;
    }

    /** An instruction so many times, and more behind it. */
    static String times(int count, String instruction, String... more) {
        List<String> all = new ArrayList<>(Collections.nCopies(count, instruction));
        all.addAll(List.of(more));
        return String.join(", ", all);
    }

    static String name(int op) {
        return NAMES.get(op);
    }
}
