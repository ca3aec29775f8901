/** Promise 5: status and trap in every status, and that asking changes nothing. */
public final class Promise05StatusAndTrapTest {
    public static void main(String[] args) {
        throughOneLife();
        everyTrap();
        Harness.finish();
    }

    private static void dueTwice(String what, NonLocalJump x, int status, int trap) {
        for (int i = 0; i < 2; i++) {
            Harness.due(what + ": status()", x.status(), status);
            Harness.due(what + ": trap()", x.trap(), trap);
        }
    }

    private static void throughOneLife() {
        NonLocalJump x = new NonLocalJump(16);
        dueTwice("new", x, NonLocalJump.S_EDIT, NonLocalJump.T_NONE);
        Harness.feed(x, "BEGIN PRINT 1 PRINT 2");
        dueTwice("with tokens", x, NonLocalJump.S_EDIT, NonLocalJump.T_NONE);
        x.compile();
        dueTwice("after a failed compile", x, NonLocalJump.S_EDIT, NonLocalJump.T_NONE);
        Harness.feed(x, "END");
        x.compile();
        dueTwice("compiled", x, NonLocalJump.S_RUNNING, NonLocalJump.T_NONE);
        x.run(1);
        dueTwice("half run", x, NonLocalJump.S_RUNNING, NonLocalJump.T_NONE);
        x.run(1);
        dueTwice("run", x, NonLocalJump.S_DONE, NonLocalJump.T_NONE);
        x.reset();
        dueTwice("reset", x, NonLocalJump.S_EDIT, NonLocalJump.T_NONE);
    }

    private static void everyTrap() {
        String[] programs = {
            "BEGIN PRINT DIV 1 0 END", "BEGIN PROC f BEGIN CALL f DONE END CALL f DONE END",
            "BEGIN PROC f BEGIN END CALL f ARGV 1 DONE END", "BEGIN LABEL l PRINT 1 GOTO l END"};
        int[] traps = {NonLocalJump.T_DIV, NonLocalJump.T_DEPTH, NonLocalJump.T_ARGS, NonLocalJump.T_OUTPUT};
        NonLocalJump x = new NonLocalJump(16);
        for (int i = 0; i < programs.length; i++) {
            Harness.feed(x, programs[i]);
            x.compile();
            dueTwice("before the trap of " + programs[i], x, NonLocalJump.S_RUNNING, NonLocalJump.T_NONE);
            x.run(256);
            dueTwice("after the trap of " + programs[i], x, NonLocalJump.S_TRAP, traps[i]);
            x.run(256);
            x.compile();
            x.token(NonLocalJump.K_END, 0);
            dueTwice("still after the trap of " + programs[i], x, NonLocalJump.S_TRAP, traps[i]);
            x.reset();
            dueTwice("reset after " + programs[i], x, NonLocalJump.S_EDIT, NonLocalJump.T_NONE);
        }
    }
}
