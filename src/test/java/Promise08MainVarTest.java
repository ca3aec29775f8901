/** Promise 8: the variables of the main activation, in every status. */
public final class Promise08MainVarTest {
    private static final int[] NO_NAMES = {Integer.MIN_VALUE, -16, -1, 16, 17, 32, 256, Integer.MAX_VALUE};

    public static void main(String[] args) {
        everyName();
        otherCategories();
        fromInsideProcedures();
        afterTrap();
        inEdit();
        Harness.finish();
    }

    private static void everyName() {
        for (int name = 0; name < 16; name++) {
            String n = "" + (char) ('a' + name);
            NonLocalJump x = Harness.compiled("BEGIN VAR " + n + " SET " + n + " 77 PRINT 1 END");
            Harness.due("before SET: mainVar(" + name + ")", x.mainVar(name), 0);
            x.run(1);
            for (int other = 0; other < 16; other++) {
                Harness.due("running: mainVar(" + other + ")", x.mainVar(other), other == name ? 77 : 0);
            }
            for (int other : NO_NAMES) {
                Harness.due("running: mainVar(" + other + ")", x.mainVar(other), 0);
            }
            x.run(1);
            Harness.due("done: mainVar(" + name + ")", x.mainVar(name), 77);
        }
    }

    private static void otherCategories() {
        NonLocalJump x = Harness.compiled("BEGIN VAR a PROC b PVAL c BEGIN VAR d SET d 4 SET c 5 PRINT 1 END "
            + "PROC f BEGIN END SET a 3 LABEL e CALL b ARGV 9 DONE END");
        for (int i = 0; i < 6; i++) {
            x.run(1);
            for (int name = 0; name < 16; name++) {
                Harness.due("only a is a main variable: mainVar(" + name + ")", x.mainVar(name), name == 0 ? 3 : 0);
            }
        }
        Harness.due("only a is a main variable: status()", x.status(), NonLocalJump.S_DONE);
        Harness.due("done: mainVar(4)", x.mainVar(4), 0);
    }

    private static void fromInsideProcedures() {
        NonLocalJump x = Harness.compiled("BEGIN VAR a VAR b PROC f PVAL a BEGIN SET a 50 SET b 60 SET b ADD REF b 1 END "
            + "SET a 10 CALL f ARGV 40 DONE SET a 11 END");
        int[] a = {10, 10, 10, 10, 10, 11};
        int[] b = {0, 0, 0, 60, 61, 61};
        for (int i = 0; i < a.length; i++) {
            x.run(1);
            Harness.due("step " + i + ": mainVar(0)", x.mainVar(0), a[i]);
            Harness.due("step " + i + ": mainVar(1)", x.mainVar(1), b[i]);
        }
    }

    private static void afterTrap() {
        NonLocalJump x = Harness.compiled("BEGIN VAR a PROC f BEGIN VAR a SET a 2 PRINT DIV 1 0 END SET a 1 CALL f DONE END");
        x.run(256);
        Harness.dueState("trapped", x, NonLocalJump.S_TRAP, NonLocalJump.T_DIV, 4, 1);
        Harness.due("trapped: mainVar(0)", x.mainVar(0), 1);
        x.run(256);
        Harness.due("trapped: mainVar(0) again", x.mainVar(0), 1);
    }

    private static void inEdit() {
        NonLocalJump x = Harness.compiled("BEGIN VAR a SET a 5 END");
        x.run(1);
        Harness.due("done: mainVar(0)", x.mainVar(0), 5);
        x.reset();
        Harness.due("reset: mainVar(0)", x.mainVar(0), 0);
        Harness.feed(x, "BEGIN VAR a SET a 6");
        Harness.due("with tokens: mainVar(0)", x.mainVar(0), 0);
        x.compile();
        Harness.due("after a failed compile: mainVar(0)", x.mainVar(0), 0);
        Harness.feed(x, "END");
        x.compile();
        Harness.due("compiled anew: mainVar(0)", x.mainVar(0), 0);
        x.run(1);
        Harness.due("done anew: mainVar(0)", x.mainVar(0), 6);
    }
}
