/** Promise 10: after reset the object is as a new one with the same depth limit. */
public final class Promise10ResetTest {
    private static final String BUSY = "BEGIN VAR a VAR b PROC f PVAL c PPROC d BEGIN VAR e SET e 3 SET a ADD REF a 1 PRINT REF a "
        + "CALL d ARGV 1 ARGP f DONE LABEL g END SET b 9 CALL f ARGV 1 ARGP f DONE END";
    private static final String OTHER = "BEGIN VAR c PROC a PVAL b BEGIN VAR e PRINT REF e PRINT ADD REF b REF c IF REF b CALL a ARGV "
        + "SUB REF b 1 DONE ELSE GOTO d FI END CALL a ARGV 2 DONE SET c 8 LABEL d PRINT REF c END";

    public static void main(String[] args) {
        for (int limit : new int[] {-3, 1, 2, 3, 16, 99}) {
            fromEdit(limit);
            fromFailedCompile(limit);
            fromRuns(limit);
            fromFull(limit);
        }
        Harness.finish();
    }

    private static void fromEdit(int limit) {
        NonLocalJump x = new NonLocalJump(limit);
        x.reset();
        dueAsNew("reset of a new one", x, limit);
        NonLocalJump fed = Harness.feed(new NonLocalJump(limit), BUSY);
        fed.reset();
        dueAsNew("reset with tokens", fed, limit);
    }

    private static void fromFailedCompile(int limit) {
        String[] wrong = {"BEGIN VAR a", "BEGIN VAR a VAR a END", "BEGIN " + Harness.repeat("LABEL a", 9) + "END", "BEGIN GOTO a END"};
        for (String program : wrong) {
            NonLocalJump x = Harness.feed(new NonLocalJump(limit), program);
            x.compile();
            x.reset();
            dueAsNew("reset after the failed compile of " + program, x, limit);
        }
    }

    private static void fromRuns(int limit) {
        String[] programs = {BUSY, OTHER, "BEGIN PRINT DIV 1 0 END", "BEGIN LABEL l PRINT 5 GOTO l END", "BEGIN END"};
        for (String program : programs) {
            for (int steps = 0; steps < 40; steps += 3) {
                NonLocalJump x = Harness.feed(new NonLocalJump(limit), program);
                x.compile();
                for (int i = 0; i < steps; i++) {
                    x.run(1);
                }
                x.reset();
                dueAsNew("reset after " + steps + " steps of " + program, x, limit);
            }
        }
    }

    private static void fromFull(int limit) {
        NonLocalJump x = Harness.feed(new NonLocalJump(limit), Harness.repeat("IF", 256));
        x.reset();
        dueAsNew("reset of a full one", x, limit);
    }

    private static void dueAsNew(String what, NonLocalJump x, int limit) {
        NonLocalJump y = new NonLocalJump(limit);
        Harness.dueSame(what, x, y);
        Harness.due(what + ": run(5)", x.run(5), NonLocalJump.S_EDIT);
        Harness.due(what + ": compile()", x.compile(), NonLocalJump.C_SYNTAX);
        Harness.dueSame(what, x, y);
        Harness.feed(x, OTHER);
        Harness.feed(y, OTHER);
        Harness.dueSame(what + ", fed", x, y);
        Harness.due(what + ", fed: compile()", x.compile(), y.compile());
        for (int i = 0; i < 20; i++) {
            Harness.dueSame(what + ", step " + i, x, y);
            Harness.due(what + ": run(1)", x.run(1), y.run(1));
        }
    }
}
