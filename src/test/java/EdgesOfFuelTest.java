/** "Fuel": each sentence that names an edge has a test of its own. */
public final class EdgesOfFuelTest {
    private static final int RUNNING = NonLocalJump.S_RUNNING;
    private static final int DONE = NonLocalJump.S_DONE;

    public static void main(String[] args) {
        Harness.sentence("Every statement (SET, PRINT, GOTO, CALL, IF, LABEL, also inside IF branches and procedure bodies) "
            + "costs 1 as it begins: executed() grows by 1", EdgesOfFuelTest::everyStatementIsCounted);
        Harness.sentence("and the fuel left to the current run call drops by 1.", EdgesOfFuelTest::everyStatementTakesFuel);
        Harness.sentence("When a statement is about to begin and the current run call has no fuel left, the run stops before it: "
            + "status stays S_RUNNING, and the next run call begins with that statement.", EdgesOfFuelTest::stopsBeforeTheStatement);
        Harness.sentence("Reaching the end of an IF branch .. costs nothing and is always done before stopping.", EdgesOfFuelTest::endOfBranch);
        Harness.sentence("Reaching the end .. of a procedure body (a return) .. costs nothing and is always done before stopping.",
            EdgesOfFuelTest::endOfProcedure);
        Harness.sentence("Reaching the end .. of the main body costs nothing and is always done before stopping.", EdgesOfFuelTest::endOfMain);
        Harness.finish();
    }

    /** Wants a program to end with its last statement and not one call of run(1) sooner. */
    private static void dueStatements(String program, int count) {
        NonLocalJump x = Harness.compiled(program);
        for (int i = 1; i <= count; i++) {
            Harness.due("executed() before statement " + i + " of " + program, x.executed(), i - 1);
            Harness.due("run(1) number " + i + " of " + program, x.run(1), i < count ? RUNNING : DONE);
            Harness.due("executed() after statement " + i + " of " + program, x.executed(), i);
        }
        NonLocalJump whole = Harness.compiled(program);
        Harness.due("run(" + count + ") of " + program, whole.run(count), DONE);
        Harness.due("executed() after run(" + count + ") of " + program, whole.executed(), count);
    }

    private static void everyStatementIsCounted() {
        String[] one = {"SET a 1", "PRINT 1", "IF 1 FI", "IF 0 FI", "IF 0 ELSE FI", "LABEL k", "CALL f DONE", "GOTO l"};
        for (String statement : one) {
            String declared = "BEGIN VAR a PROC f BEGIN END ";
            dueStatements(declared + statement + " LABEL l END", statement.equals("GOTO l") ? 1 : 2);
            if (!statement.startsWith("LABEL")) {
                dueStatements(declared + "IF 1 " + statement + " FI LABEL l END", statement.equals("GOTO l") ? 2 : 3);
                dueStatements(declared + "IF 0 ELSE " + statement + " FI LABEL l END", statement.equals("GOTO l") ? 2 : 3);
            }
            dueStatements(declared + "PROC g BEGIN " + statement + " LABEL l END CALL g DONE END", statement.equals("GOTO l") ? 2 : 3);
        }
        // What is not run is not counted.
        dueStatements("BEGIN PROC f BEGIN PRINT 1 END IF 0 PRINT 1 PRINT 2 ELSE PRINT 3 FI GOTO l PRINT 4 LABEL l PRINT 5 END", 4);
        // A long expression is one statement still, and so is a CALL with many arguments.
        dueStatements("BEGIN PRINT " + Harness.repeat("ADD 1", 100) + "1 END", 1);
        dueStatements("BEGIN PROC f PVAL a PVAL b PVAL c PVAL d BEGIN END CALL f ARGV 1 ARGV ADD 1 1 ARGV 3 ARGV 4 DONE END", 1);
    }

    private static void everyStatementTakesFuel() {
        String mixed = "BEGIN VAR a PROC f PVAL n BEGIN LABEL l SET a ADD REF a 1 IF LT REF a REF n GOTO l ELSE PRINT REF a FI END "
            + "CALL f ARGV 3 DONE IF 1 CALL f ARGV 5 DONE FI END";
        // CALL LABEL, SET IF GOTO twice, SET IF PRINT; IF CALL LABEL, SET IF GOTO, SET IF PRINT.
        int all = 11 + 9;
        for (int fuel = 1; fuel < all; fuel++) {
            NonLocalJump x = Harness.compiled(mixed);
            Harness.due("run(" + fuel + ")", x.run(fuel), RUNNING);
            Harness.due("executed() after run(" + fuel + ")", x.executed(), fuel);
            Harness.due("run(" + (all - fuel) + ") after it", x.run(all - fuel), DONE);
            Harness.due("executed() at the end", x.executed(), all);
        }
    }

    private static void stopsBeforeTheStatement() {
        String[] next = {"SET a 7", "PRINT 8", "CALL f DONE", "IF 1 PRINT 8 FI", "GOTO l", "LABEL k", "PRINT DIV 1 0", "CALL f ARGV 1 DONE"};
        for (String statement : next) {
            NonLocalJump x = Harness.compiled("BEGIN VAR a PROC f BEGIN PRINT 9 END SET a 1 " + statement + " PRINT 5 LABEL l END");
            NonLocalJump y = Harness.compiled("BEGIN VAR a PROC f BEGIN PRINT 9 END SET a 1 PRINT 5 LABEL l END");
            Harness.due("run(1) before " + statement, x.run(1), RUNNING);
            y.run(1);
            // Nothing of the statement is to be seen yet.
            Harness.due("before " + statement + ": mainVar(0)", x.mainVar(0), 1);
            Harness.due("before " + statement + ": seen(0)", x.seen(0), 1);
            Harness.dueState("before " + statement, x, RUNNING, NonLocalJump.T_NONE, 1, 0);
            Harness.due("before " + statement + ": outputCount()", x.outputCount(), y.outputCount());
            x.run(1);
            Harness.due("after " + statement + ": executed()", x.executed(), 2);
        }
        NonLocalJump z = Harness.compiled("BEGIN VAR a PROC f BEGIN SET a 2 PRINT 6 END SET a 1 CALL f DONE SET a 3 END");
        int[] a = {1, 1, 2, 2};
        int[] depth = {0, 1, 1, 0};
        for (int i = 0; i < 4; i++) {
            Harness.due("statement by statement: run(1)", z.run(1), RUNNING);
            Harness.due("statement by statement: mainVar(0)", z.mainVar(0), a[i]);
            Harness.due("statement by statement: depth()", z.depth(), depth[i]);
        }
        Harness.due("statement by statement: run(1)", z.run(1), DONE);
        Harness.due("statement by statement: mainVar(0)", z.mainVar(0), 3);
    }

    private static void endOfBranch() {
        dueStatements("BEGIN IF 1 FI END", 1);
        dueStatements("BEGIN IF 1 ELSE PRINT 1 FI END", 1);
        dueStatements("BEGIN IF 0 PRINT 1 FI END", 1);
        dueStatements("BEGIN IF 0 PRINT 1 ELSE FI END", 1);
        dueStatements("BEGIN IF 1 PRINT 1 ELSE PRINT 2 FI END", 2);
        dueStatements("BEGIN IF 0 PRINT 1 ELSE PRINT 2 FI END", 2);
        dueStatements("BEGIN " + Harness.repeat("IF 1", 40) + "PRINT 1 " + Harness.repeat("ELSE PRINT 2 FI", 40) + "END", 41);
        dueStatements("BEGIN " + Harness.repeat("IF 1", 83) + "PRINT 1 " + Harness.repeat("FI", 83) + "END", 84);
        dueStatements("BEGIN " + Harness.repeat("IF 0 ELSE", 60) + "PRINT 1 " + Harness.repeat("FI", 60) + "END", 61);
    }

    private static void endOfProcedure() {
        NonLocalJump x = Harness.compiled("BEGIN VAR a PROC f BEGIN VAR a SET a 5 END SET a 3 CALL f DONE PRINT REF a END");
        x.run(2);
        Harness.due("inside: depth()", x.depth(), 1);
        Harness.due("inside: seen(0)", x.seen(0), 0);
        Harness.due("the last statement of the body: run(1)", x.run(1), RUNNING);
        Harness.due("returned: depth()", x.depth(), 0);
        Harness.due("returned: seen(0)", x.seen(0), 3);
        Harness.due("returned: executed()", x.executed(), 3);
        // An empty body is left as soon as it is entered.
        NonLocalJump empty = Harness.compiled("BEGIN PROC f BEGIN END CALL f DONE PRINT 1 END");
        Harness.due("an empty body: run(1)", empty.run(1), RUNNING);
        Harness.dueState("an empty body", empty, RUNNING, NonLocalJump.T_NONE, 1, 0);
        // Sixteen returns in a row, each out of two IFs.
        NonLocalJump deep = Harness.compiled("BEGIN PROC f PVAL n BEGIN IF 1 IF REF n CALL f ARGV SUB REF n 1 DONE ELSE PRINT 1 FI FI END "
            + "CALL f ARGV 15 DONE PRINT 2 END");
        deep.run(48);
        Harness.dueState("before the sixteen returns", deep, RUNNING, NonLocalJump.T_NONE, 48, 16);
        Harness.due("the statement before the sixteen returns: run(1)", deep.run(1), RUNNING);
        Harness.dueState("after the sixteen returns", deep, RUNNING, NonLocalJump.T_NONE, 49, 0);
    }

    private static void endOfMain() {
        Harness.due("an empty main body: run(1)", Harness.compiled("BEGIN END").run(1), DONE);
        NonLocalJump x = Harness.compiled("BEGIN PRINT 1 PRINT 2 END");
        Harness.due("one statement of two: run(1)", x.run(1), RUNNING);
        Harness.due("two statements of two: run(1)", x.run(1), DONE);
        Harness.due("two statements of two: executed()", x.executed(), 2);
        NonLocalJump deep = Harness.compiled("BEGIN PROC f PVAL n BEGIN IF REF n CALL f ARGV SUB REF n 1 DONE FI END CALL f ARGV 15 DONE END");
        Harness.due("all but the last statement: run(31)", deep.run(31), RUNNING);
        Harness.due("all but the last statement: depth()", deep.depth(), 16);
        Harness.due("the last statement, sixteen returns and the end: run(1)", deep.run(1), DONE);
        Harness.dueState("the end", deep, DONE, NonLocalJump.T_NONE, 32, 0);
        NonLocalJump full = Harness.compiled("BEGIN VAR a " + Harness.repeat("SET a 1", 84) + "END");
        Harness.due("84 statements with fuel 84: run(84)", full.run(84), DONE);
    }
}
