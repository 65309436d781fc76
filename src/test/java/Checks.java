/** What the tests share: they compare answers, count the wrong ones and end with exit code 1. */
final class Checks {
    private static int right = 0;
    private static int wrong = 0;
    private static String sentence = "";

    /** A call that may throw. */
    interface Call {
        long answer();
    }

    private Checks() {
    }

    /** The words of the document that the next answers are compared for. */
    static void about(String words) {
        sentence = "[" + words + "] ";
    }

    static void same(String what, long got, long due) {
        if (got == due) {
            right++;
            return;
        }
        wrong++;
        System.out.println(sentence + what + " answered " + got + ", due is " + due);
    }

    static void same(String what, String got, String due) {
        if (got.equals(due)) {
            right++;
            return;
        }
        wrong++;
        System.out.println(sentence + what + " answered\n" + got + "\ndue is\n" + due);
    }

    static void fails(String what, Class<? extends RuntimeException> due, Call call) {
        String got;
        try {
            got = "answered " + call.answer();
        } catch (RuntimeException e) {
            if (e.getClass() == due) {
                right++;
                return;
            }
            got = "threw " + e.getClass().getName();
        }
        wrong++;
        System.out.println(sentence + what + " " + got + ", due is " + due.getName());
    }

    static void bad(String what, Call call) {
        fails(what, IllegalArgumentException.class, call);
    }

    static void early(String what, Call call) {
        fails(what, IllegalStateException.class, call);
    }

    static void outside(String what, Call call) {
        fails(what, IndexOutOfBoundsException.class, call);
    }

    static void unsupported(String what, Call call) {
        fails(what, UnsupportedOperationException.class, call);
    }

    static void finish(String test) {
        System.out.println(test + ": " + right + " answers as due, " + wrong + " not");
        if (wrong != 0) {
            System.exit(1);
        }
    }
}
