/** Promise 9: the variables as seen from the newest activation. */
public final class Promise09SeenTest {
    private static final int[] NO_NAMES = {Integer.MIN_VALUE, -16, -1, 16, 17, 32, 256, Integer.MAX_VALUE};

    public static void main(String[] args) {
        nearestWins();
        procedureValueSeesItsHome();
        recursiveInstances();
        otherStatuses();
        Harness.finish();
    }

    /** Wants the values of the names from 0 on; the names after them are not seen. */
    private static void dueSeen(String what, NonLocalJump x, int... want) {
        for (int name = 0; name < 16; name++) {
            Harness.due(what + ": seen(" + name + ")", x.seen(name), name < want.length ? want[name] : 0);
        }
        for (int name : NO_NAMES) {
            Harness.due(what + ": seen(" + name + ")", x.seen(name), 0);
        }
    }

    private static void nearestWins() {
        // a: a variable of main, hidden in f by a parameter and in g by a label. b: hidden by the procedure g's name.
        NonLocalJump x = Harness.compiled("BEGIN VAR a VAR b VAR c PROC f PVAL a PPROC d BEGIN VAR e PROC b BEGIN "
            + "SET c 31 LABEL a PRINT 1 END SET e 20 CALL b DONE PRINT 2 END PROC g BEGIN END "
            + "SET a 1 SET b 2 SET c 3 CALL f ARGV 10 ARGP g DONE PRINT 3 END");
        dueSeen("compiled", x);
        x.run(3);
        dueSeen("in main", x, 1, 2, 3);
        x.run(1);
        dueSeen("in f", x, 10, 0, 3);
        x.run(1);
        dueSeen("in f after SET e", x, 10, 0, 3, 0, 20);
        x.run(1);
        dueSeen("in b", x, 0, 0, 3, 0, 20);
        x.run(1);
        dueSeen("in b after SET c", x, 0, 0, 31, 0, 20);
        x.run(2);
        dueSeen("in f again", x, 10, 0, 31, 0, 20);
        x.run(1);
        dueSeen("in main again", x, 1, 2, 31);
        x.run(1);
        Harness.due("the end: status()", x.status(), NonLocalJump.S_DONE);
        dueSeen("the end", x);
    }

    private static void procedureValueSeesItsHome() {
        NonLocalJump x = Harness.compiled("BEGIN VAR a PROC f PPROC c BEGIN VAR a VAR b SET a 7 SET b 8 CALL c DONE PRINT 1 END "
            + "PROC g PVAL b BEGIN PROC h BEGIN VAR d SET d 9 PRINT 1 END CALL f ARGP h DONE PRINT 2 END "
            + "SET a 1 CALL g ARGV 2 DONE PRINT 3 END");
        x.run(2);
        dueSeen("in g", x, 1, 2);
        x.run(1);
        dueSeen("in f", x, 0, 0);
        x.run(2);
        dueSeen("in f after SET", x, 7, 8);
        x.run(1);
        dueSeen("in h", x, 1, 2);
        x.run(1);
        dueSeen("in h after SET", x, 1, 2, 0, 9);
        x.run(1);
        dueSeen("in f again", x, 7, 8);
    }

    private static void recursiveInstances() {
        NonLocalJump x = Harness.compiled("BEGIN PROC f PVAL a PPROC b BEGIN PROC g BEGIN PRINT REF a PRINT 0 END "
            + "IF REF a CALL f ARGV SUB REF a 1 ARGP g DONE ELSE CALL b DONE FI PRINT 5 END PROC h BEGIN END CALL f ARGV 3 ARGP h DONE END");
        x.run(7);
        dueSeen("innermost f", x, 0);
        Harness.due("innermost f: depth()", x.depth(), 4);
        x.run(2);
        Harness.due("g of the level before: depth()", x.depth(), 5);
        dueSeen("g of the level before", x, 1);
        x.run(2);
        dueSeen("innermost f again", x, 0);
        x.run(1);
        dueSeen("the level before", x, 1);
        x.run(1);
        dueSeen("two levels before", x, 2);
    }

    private static void otherStatuses() {
        NonLocalJump x = Harness.feed(new NonLocalJump(16), "BEGIN VAR a SET a 5 PRINT DIV 1 0 END");
        dueSeen("in S_EDIT", x);
        x.compile();
        x.run(1);
        dueSeen("running", x, 5);
        x.run(1);
        Harness.due("trapped: status()", x.status(), NonLocalJump.S_TRAP);
        dueSeen("trapped", x);
        Harness.due("trapped: mainVar(0)", x.mainVar(0), 5);
        x.reset();
        dueSeen("reset", x);
        NonLocalJump y = Harness.compiled("BEGIN VAR a SET a 5 END");
        y.run(1);
        dueSeen("done", y);
    }
}
