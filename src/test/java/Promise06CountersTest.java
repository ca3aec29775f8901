/** Promise 6: executed and depth through runs, ends, traps and jumps. */
public final class Promise06CountersTest {
    public static void main(String[] args) {
        everyStep();
        afterTraps();
        deepJump();
        countsBeginAnew();
        Harness.finish();
    }

    private static void everyStep() {
        NonLocalJump x = Harness.compiled("BEGIN PROC f PVAL n BEGIN IF REF n CALL f ARGV SUB REF n 1 DONE PRINT REF n FI END "
            + "PROC g BEGIN END CALL g DONE CALL f ARGV 2 DONE LABEL l END");
        // CALL g (and back), CALL f, IF, CALL f, IF, CALL f, IF (and back), PRINT (and back), PRINT (and back), LABEL.
        int[] depths = {0, 1, 1, 2, 2, 3, 2, 1, 0, 0};
        Harness.due("compiled: executed()", x.executed(), 0);
        Harness.due("compiled: depth()", x.depth(), 0);
        for (int i = 0; i < depths.length; i++) {
            x.run(1);
            for (int again = 0; again < 2; again++) {
                Harness.due("step " + i + ": executed()", x.executed(), i + 1);
                Harness.due("step " + i + ": depth()", x.depth(), depths[i]);
            }
        }
        Harness.due("the end: status()", x.status(), NonLocalJump.S_DONE);
    }

    private static void afterTraps() {
        Harness.dueTrap("BEGIN PROC f PVAL n BEGIN IF DIV 1 REF n CALL f ARGV SUB REF n 1 DONE FI END CALL f ARGV 1 DONE END",
            NonLocalJump.T_DIV, 4, 2);
        Harness.dueTrap("BEGIN PROC f PVAL n BEGIN IF REF n CALL f ARGV SUB REF n 1 DONE ELSE CALL f DONE FI END CALL f ARGV 5 DONE END",
            NonLocalJump.T_ARGS, 13, 6);
        Harness.dueTrap("BEGIN PROC f BEGIN LABEL l PRINT 1 GOTO l END CALL f DONE END", NonLocalJump.T_OUTPUT, 67, 1);
        for (int limit = 1; limit <= 16; limit++) {
            NonLocalJump x = Harness.compiled(limit, "BEGIN PROC f BEGIN CALL f DONE END CALL f DONE END");
            for (int i = 0; i < 20; i++) {
                x.run(1);
                Harness.due("limit " + limit + ": depth() in bounds", x.depth() <= limit, true);
            }
            Harness.dueState("limit " + limit, x, NonLocalJump.S_TRAP, NonLocalJump.T_DEPTH, limit + 1, limit);
        }
    }

    private static void deepJump() {
        // The last of the levels jumps out of five of them into one in the middle.
        NonLocalJump x = Harness.compiled("BEGIN PROC f PVAL n PPROC a BEGIN PROC g BEGIN GOTO l END "
            + "IF EQ REF n 0 CALL a DONE FI IF EQ REF n 4 CALL f ARGV SUB REF n 1 ARGP g DONE FI "
            + "CALL f ARGV SUB REF n 1 ARGP a DONE LABEL l PRINT REF n END "
            + "PROC h BEGIN END CALL f ARGV 6 ARGP h DONE END");
        x.run(20);
        Harness.dueState("before the jump", x, NonLocalJump.S_RUNNING, NonLocalJump.T_NONE, 20, 7);
        x.run(1);
        Harness.dueState("in the jumping procedure", x, NonLocalJump.S_RUNNING, NonLocalJump.T_NONE, 21, 8);
        x.run(1);
        Harness.dueState("after the jump", x, NonLocalJump.S_RUNNING, NonLocalJump.T_NONE, 22, 3);
        x.run(256);
        Harness.dueOutput("after the jump", x, 4, 5, 6);
        Harness.due("after the jump: depth()", x.depth(), 0);
    }

    private static void countsBeginAnew() {
        NonLocalJump x = Harness.compiled("BEGIN PROC f BEGIN CALL f DONE END CALL f DONE END");
        x.run(9);
        Harness.dueState("running", x, NonLocalJump.S_RUNNING, NonLocalJump.T_NONE, 9, 9);
        x.reset();
        Harness.dueState("reset", x, NonLocalJump.S_EDIT, NonLocalJump.T_NONE, 0, 0);
        Harness.feed(x, "BEGIN PRINT 1 PRINT 2 END");
        Harness.dueState("with tokens", x, NonLocalJump.S_EDIT, NonLocalJump.T_NONE, 0, 0);
        x.compile();
        Harness.dueState("compiled", x, NonLocalJump.S_RUNNING, NonLocalJump.T_NONE, 0, 0);
        x.run(1);
        Harness.dueState("running anew", x, NonLocalJump.S_RUNNING, NonLocalJump.T_NONE, 1, 0);
    }
}
