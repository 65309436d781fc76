/** The boundary cases that the document names for turns. */
public final class TurnEdgesTest {
    private TurnEdgesTest() {
    }

    public static void main(String[] args) {
        threadZeroAtFirst();
        fourInATurn();
        yields();
        doesNotRunAnyMore();
        nextByNumbers();
        perhapsItself();
        noneRuns();
        behindIsOne();
        errorsAreOne();
        limitsAreNoTurns();
        turnsThatWereLoaded();
        Checks.finish("TurnEdgesTest");
    }

    /** After each instruction: whose turn it is, and how many are done in it. */
    private static void turns(String what, SnapForge x, int... due) {
        for (int i = 0; i < due.length; i += 2) {
            x.run(1);
            Checks.same(what + ": turn after " + (i / 2 + 1), x.told(1), due[i]);
            Checks.same(what + ": done after " + (i / 2 + 1), x.told(2), due[i + 1]);
        }
    }

    private static void threadZeroAtFirst() {
        Checks.about("TURNS: it is that of THREAD 0 at first");
        SnapForge x = Ops.begun("FORK 1, GOTO 1");
        Ops.write(x, 1, 0, "GOTO 0");
        Checks.same("turn", x.told(1), 0);
        Checks.same("done", x.told(2), 0);
        x.run(6);
        Checks.same("another turn", x.told(1), 1);
        x.start(0, 0, 0);
        Checks.same("turn of a new start", x.told(1), 0);
        Checks.same("done of a new start", x.told(2), 0);
    }

    private static void fourInATurn() {
        Checks.about("till it has done 4 in this turn");
        SnapForge x = Ops.begun("FORK 1, GOTO 1");
        Ops.write(x, 1, 0, "GOTO 0");
        turns("two threads", x, 0, 1, 0, 2, 0, 3, 1, 0, 1, 1, 1, 2, 1, 3, 0, 0, 0, 1);
    }

    private static void yields() {
        Checks.about("or a YIELD");
        for (int n = 0; n < 4; n++) {
            SnapForge x = Ops.begun("FORK 1, NOP, NOP, NOP, " + Ops.times(n, "NOP", "YIELD", "NOP"));
            Ops.write(x, 1, 0, "YIELD, YIELD, YIELD, GOTO 3");
            x.run(4 + 1);
            Checks.same("thread 0 again", x.told(1), 0);
            x.run(n);
            Checks.same("its turn", x.told(1), 0);
            Checks.same("so many done", x.told(2), n);
            x.run(1);
            Checks.same("a YIELD behind " + n, x.told(1), 1);
            Checks.same("none done", x.told(2), 0);
            x.run(1);
            Checks.same("one YIELD gives one turn", x.told(1), 0);
        }
    }

    private static void doesNotRunAnyMore() {
        Checks.about("or does not RUN any more");
        for (String end : new String[] {"RETURN", "THROW"}) {
            for (int n = 0; n < 3; n++) {
                SnapForge x = Ops.begun("FORK 1, " + Ops.times(n, "NOP", end));
                Ops.write(x, 1, 0, "GOTO 0");
                x.run(n + 1);
                Checks.same("its turn", x.told(1), 0);
                Checks.same("so many done", x.told(2), n + 1);
                x.run(1);
                Checks.same(end + " behind " + n, x.told(1), 1);
                Checks.same("none done", x.told(2), 0);
            }
        }
    }

    private static void nextByNumbers() {
        Checks.about("the turn of the next one, by numbers, 0 behind the last, that RUNS");
        SnapForge x = Ops.begun("FORK 1, FORK 1, YIELD, GOTO 2");
        Ops.write(x, 1, 0, "YIELD, GOTO 0");
        turns("three threads", x, 0, 1, 0, 2, 1, 0, 2, 0, 0, 0, 0, 1, 1, 0, 1, 1, 2, 0, 2, 1, 0, 0);
        SnapForge y = Ops.begun("FORK 1, FORK 2, YIELD, GOTO 2");
        Ops.write(y, 1, 0, "NULL, RETURN");
        Ops.write(y, 2, 0, "YIELD, GOTO 0");
        turns("thread 1 ends", y, 0, 1, 0, 2, 1, 0, 1, 1, 2, 0, 0, 0, 0, 1, 2, 0, 2, 1, 0, 0);
        SnapForge z = Ops.begun("FORK 1, FORK 1, RETURN");
        Ops.write(z, 1, 0, "YIELD, GOTO 0");
        turns("thread 0 ends", z, 0, 1, 0, 2, 1, 0, 2, 0, 1, 0, 1, 1, 2, 0);
        SnapForge w = Ops.begun("FORK 1, FORK 2, YIELD, GOTO 2");
        Ops.write(w, 1, 0, "YIELD, GOTO 0");
        Ops.write(w, 2, 0, "POP");
        turns("thread 2 fails", w, 0, 1, 0, 2, 1, 0, 2, 0, 0, 0, 0, 1, 1, 0, 1, 1, 0, 0);
    }

    private static void perhapsItself() {
        Checks.about("that RUNS, perhaps itself, with none done");
        turns("alone", Ops.begun("NOP, NOP, NOP, NOP, YIELD, NOP, YIELD, NOP"),
            0, 1, 0, 2, 0, 3, 0, 0, 0, 0, 0, 1, 0, 0, 0, 1);
        SnapForge x = Ops.begun("FORK 1, RETURN");
        Ops.write(x, 1, 0, "YIELD, NOP, NOP, NOP, NOP, NOP");
        turns("thread 1 alone", x, 0, 1, 1, 0, 1, 0, 1, 1, 1, 2, 1, 3, 1, 0, 1, 1);
    }

    private static void noneRuns() {
        Checks.about("if none RUNS the turn stays, with none done");
        turns("thread 0 ends", Ops.begun("NULL, RETURN"), 0, 1, 0, 0);
        turns("thread 0 fails", Ops.begun("NOP, NOP, POP"), 0, 1, 0, 2, 0, 0);
        for (int last = 0; last < 3; last++) {
            SnapForge x = Ops.begun("FORK 1, FORK 2, " + (last == 0 ? "YIELD, " : "") + "RETURN");
            Ops.write(x, 1, 0, (last == 1 ? "YIELD, " : "") + "NULL, RETURN");
            Ops.write(x, 2, 0, "POP");
            Checks.same("all end", x.run(300), 0);
            Checks.same("the turn of the last one", x.told(1), last);
            Checks.same("none done", x.told(2), 0);
            x.run(300);
            Checks.same("it stays", x.told(1), last);
        }
    }

    private static void behindIsOne() {
        Checks.about("with BEHIND, too, one is done");
        SnapForge x = Ops.begun("FORK 1, GOTO 9");
        x.handle(0, 9, 10, 9);
        Ops.write(x, 1, 0, "GOTO 0");
        turns("handled", x, 0, 1, 0, 2, 0, 3, 1, 0);
        Checks.same("four in all", x.told(4), 4);
        SnapForge y = Ops.begun("");
        Checks.same("not handled", y.run(1), 0);
        Checks.same("one in all", y.told(4), 1);
    }

    private static void errorsAreOne() {
        Checks.about("One INSTRUCTION after the other is done: one with an ERROR is one");
        SnapForge x = Ops.begun("FORK 1, THROW");
        x.handle(0, 1, 2, 1);
        Ops.write(x, 1, 0, "GOTO 0");
        turns("handled", x, 0, 1, 0, 2, 0, 3, 1, 0);
    }

    private static void limitsAreNoTurns() {
        Checks.about("run: a limit within a turn does not end it");
        SnapForge one = Ops.begun("FORK 1, FORK 1, CALL 1");
        SnapForge other = Ops.begun("FORK 1, FORK 1, CALL 1");
        for (SnapForge x : new SnapForge[] {one, other}) {
            Ops.write(x, 1, 0, "NOP, YIELD, NOP, NOP, NOP, NOP, GOTO 0");
        }
        for (int n = 0; n < 60; n++) {
            one.run(1);
        }
        for (int n : new int[] {0, 7, 2, 0, 31, 3, 17}) {
            other.run(n);
        }
        for (int what = 0; what < 70; what++) {
            if (what < 6 || what > 9 && what % 10 < 3) {
                Checks.same("told " + what, other.told(what), one.told(what));
            }
        }
    }

    private static void turnsThatWereLoaded() {
        Checks.about("how many INSTRUCTIONS it has done in it: 0 to 3, as THE IMAGE says");
        for (int done = 0; done <= 3; done++) {
            SnapForge x = Ops.begun("FORK 1, GOTO 1");
            Ops.write(x, 1, 0, "GOTO 0");
            x.run(5);
            x.snapshot();
            x.patch(5, done, true);
            x.load();
            Checks.same("turn", x.told(1), 1);
            Checks.same("done", x.told(2), done);
            x.run(3 - done);
            Checks.same("three are done", x.told(2), 3);
            x.run(1);
            Checks.same("the fourth one", x.told(1), 0);
        }
    }
}
