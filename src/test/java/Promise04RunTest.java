import java.util.List;

/** Promise 4: how statements run, what they cost, and that the slicing of fuel does not matter. */
public final class Promise04RunTest {
    private static final int MIN = Integer.MIN_VALUE;
    private static final int MAX = Integer.MAX_VALUE;

    // Knuth's man or boy test with three procedures: it needs all 16 levels.
    private static final String MAN_OR_BOY =
        "BEGIN PROC a PVAL k PPROC b PPROC c PPROC d BEGIN VAR i PROC e BEGIN SET k SUB REF k 1 "
        + "CALL a ARGV REF k ARGP e ARGP b ARGP c DONE SET i REF o END "
        + "IF LT 0 REF k CALL e DONE ELSE CALL c DONE SET i REF o CALL d DONE SET i ADD REF i REF o FI SET o REF i END "
        + "PROC f BEGIN SET o 1 END PROC g BEGIN SET o -1 END VAR o CALL a ARGV 3 ARGP f ARGP g ARGP f DONE PRINT REF o END";

    public static void main(String[] args) {
        otherStatuses();
        fuelIsClamped();
        fuelIsSpentByStatements();
        expressions();
        ifs();
        gotos();
        nonLocalGotos();
        calls();
        procedureValues();
        divTraps();
        argTraps();
        depthTraps();
        outputTraps();
        slicing();
        Harness.finish();
    }

    private static void otherStatuses() {
        NonLocalJump x = Harness.feed(new NonLocalJump(16), "BEGIN PRINT 1 END");
        Harness.due("run(5) in S_EDIT", x.run(5), NonLocalJump.S_EDIT);
        Harness.dueState("run(5) in S_EDIT", x, NonLocalJump.S_EDIT, NonLocalJump.T_NONE, 0, 0);
        x.compile();
        Harness.due("run(5)", x.run(5), NonLocalJump.S_DONE);
        Harness.due("run(5) when done", x.run(5), NonLocalJump.S_DONE);
        Harness.dueState("run(5) when done", x, NonLocalJump.S_DONE, NonLocalJump.T_NONE, 1, 0);
        Harness.dueOutput("run(5) when done", x, 1);
        NonLocalJump y = Harness.compiled("BEGIN PRINT DIV 1 0 PRINT 1 END");
        Harness.due("run(5)", y.run(5), NonLocalJump.S_TRAP);
        Harness.due("run(5) after the trap", y.run(5), NonLocalJump.S_TRAP);
        Harness.dueState("run(5) after the trap", y, NonLocalJump.S_TRAP, NonLocalJump.T_DIV, 1, 0);
    }

    private static void fuelIsClamped() {
        int[] given = {MIN, -256, -1, 0, 1, 2, 255, 256, 257, 1000, MAX};
        int[] spent = {1, 1, 1, 1, 1, 2, 255, 256, 256, 256, 256};
        for (int i = 0; i < given.length; i++) {
            NonLocalJump x = Harness.compiled("BEGIN LABEL l GOTO l END");
            Harness.due("run(" + given[i] + ")", x.run(given[i]), NonLocalJump.S_RUNNING);
            Harness.due("executed() after run(" + given[i] + ")", x.executed(), spent[i]);
            x.run(given[i]);
            Harness.due("executed() after two run(" + given[i] + ")", x.executed(), 2 * spent[i]);
        }
    }

    private static void dueSteps(String program, int statements) {
        NonLocalJump x = Harness.compiled(program);
        for (int i = 1; i < statements; i++) {
            Harness.due("run(1) number " + i + " of " + program, x.run(1), NonLocalJump.S_RUNNING);
            Harness.due("executed() of " + program, x.executed(), i);
        }
        Harness.due("last run(1) of " + program, x.run(1), NonLocalJump.S_DONE);
        Harness.due("executed() of " + program, x.executed(), Math.max(statements, 0));
    }

    private static void fuelIsSpentByStatements() {
        dueSteps("BEGIN END", 0);
        dueSteps("BEGIN VAR a SET a 1 PRINT 1 LABEL l IF 1 FI IF 0 FI IF 0 ELSE FI END", 6);
        dueSteps("BEGIN IF 1 IF 1 IF 1 PRINT 1 FI FI ELSE PRINT 2 PRINT 3 FI END", 4);
        dueSteps("BEGIN GOTO l PRINT 1 LABEL l END", 1);
        dueSteps("BEGIN GOTO l PRINT 1 LABEL l LABEL m END", 2);
        dueSteps("BEGIN PROC f BEGIN END CALL f DONE CALL f DONE END", 2);
        dueSteps("BEGIN PROC f BEGIN PROC g BEGIN PRINT 1 END CALL g DONE END IF 1 CALL f DONE FI END", 4);
    }

    private static void expressions() {
        Harness.duePrints("BEGIN PRINT ADD 2 3 PRINT SUB 2 3 PRINT MUL 2 3 PRINT DIV 7 2 PRINT MOD 7 2 END", 5, -1, 6, 3, 1);
        Harness.duePrints("BEGIN PRINT DIV -7 2 PRINT MOD -7 2 PRINT DIV 7 -2 PRINT MOD 7 -2 PRINT DIV -7 -2 PRINT MOD -7 -2 END",
            -3, -1, -3, 1, 3, -1);
        Harness.duePrints("BEGIN PRINT ADD " + MAX + " 1 PRINT SUB " + MIN + " 1 PRINT MUL 65536 65536 PRINT MUL " + MAX + " 3 END",
            MIN, MAX, 0, MAX - 2);
        Harness.duePrints("BEGIN PRINT DIV " + MIN + " -1 PRINT MOD " + MIN + " -1 PRINT DIV 0 5 PRINT MOD 0 5 END", MIN, 0, 0, 0);
        Harness.duePrints("BEGIN PRINT LT 1 2 PRINT LT 2 2 PRINT LT 3 2 PRINT LT -1 0 PRINT LT " + MIN + " " + MAX
            + " PRINT LT " + MAX + " " + MIN + " END", 1, 0, 0, 1, 1, 0);
        Harness.duePrints("BEGIN PRINT EQ 1 2 PRINT EQ 2 2 PRINT EQ -2 2 PRINT EQ 0 0 END", 0, 1, 0, 1);
        Harness.duePrints("BEGIN PRINT SUB SUB 10 3 SUB 4 SUB 2 7 PRINT DIV MUL ADD 1 2 3 SUB 5 3 PRINT SUB MUL 2 3 1 END", -2, 4, 5);
        Harness.duePrints("BEGIN PRINT " + Harness.repeat("SUB", 120) + Harness.repeat("1", 121) + "END", -119);
        Harness.duePrints("BEGIN PRINT " + Harness.repeat("SUB 1", 120) + "1 END", 1);
        Harness.duePrints("BEGIN VAR a VAR b SET a 5 SET b SUB REF a 7 SET a SUB REF b REF a PRINT REF a PRINT REF b END", -7, -2);
    }

    private static void ifs() {
        Harness.duePrints("BEGIN IF 1 PRINT 1 FI PRINT 2 END", 1, 2);
        Harness.duePrints("BEGIN IF 0 PRINT 1 FI PRINT 2 END", 2);
        Harness.duePrints("BEGIN IF -1 PRINT 1 ELSE PRINT 2 FI PRINT 3 END", 1, 3);
        Harness.duePrints("BEGIN IF 0 PRINT 1 ELSE PRINT 2 FI PRINT 3 END", 2, 3);
        Harness.duePrints("BEGIN IF " + MIN + " PRINT 1 PRINT 2 ELSE FI IF 0 ELSE PRINT 4 PRINT 5 FI END", 1, 2, 4, 5);
        Harness.duePrints("BEGIN IF 1 IF 0 PRINT 1 ELSE IF 1 PRINT 2 ELSE PRINT 3 FI PRINT 4 FI PRINT 5 ELSE PRINT 6 FI END", 2, 4, 5);
        Harness.duePrints("BEGIN IF 0 IF 0 PRINT 1 ELSE PRINT 2 FI ELSE IF 1 FI PRINT 3 IF 0 PRINT 4 FI FI PRINT 5 END", 3, 5);
    }

    private static void gotos() {
        Harness.duePrints("BEGIN VAR i LABEL l PRINT REF i SET i ADD REF i 1 IF LT REF i 4 GOTO l FI PRINT 9 END", 0, 1, 2, 3, 9);
        Harness.duePrints("BEGIN GOTO m LABEL l PRINT 1 GOTO n LABEL m PRINT 2 GOTO l LABEL n END", 2, 1);
        Harness.duePrints("BEGIN IF 1 IF 1 GOTO l PRINT 1 FI PRINT 2 ELSE PRINT 3 FI PRINT 4 LABEL l PRINT 5 END", 5);
        Harness.duePrints("BEGIN PROC f BEGIN PRINT 1 GOTO l PRINT 2 LABEL l END CALL f DONE PRINT 3 END", 1, 3);
        Harness.duePrints("BEGIN PROC f BEGIN LABEL l GOTO l END PROC g BEGIN GOTO l END CALL g DONE PRINT 1 LABEL l PRINT 2 END", 2);
    }

    private static void nonLocalGotos() {
        Harness.duePrints("BEGIN PROC f BEGIN IF 1 GOTO l FI PRINT 1 END IF 1 CALL f DONE PRINT 2 FI PRINT 3 LABEL l PRINT 4 END", 4);
        Harness.duePrints("BEGIN PROC f BEGIN GOTO l END PRINT 1 CALL f DONE PRINT 2 LABEL l END", 1);
        // The jump leaves g and h and ends f, but goes on behind the call of f.
        Harness.duePrints("BEGIN PROC f BEGIN PROC g BEGIN GOTO l END PROC h PPROC a BEGIN CALL a DONE PRINT 1 END "
            + "CALL h ARGP g DONE PRINT 2 LABEL l END CALL f DONE PRINT 3 END", 3);
        String choose = "BEGIN PROC f PVAL a PPROC b BEGIN PROC g BEGIN GOTO l END "
            + "IF EQ REF a 0 CALL b DONE FI IF EQ REF a %d CALL f ARGV SUB REF a 1 ARGP g DONE FI "
            + "CALL f ARGV SUB REF a 1 ARGP b DONE PRINT SUB 0 REF a GOTO m LABEL l PRINT REF a LABEL m END "
            + "PROC h BEGIN END CALL f ARGV 3 ARGP h DONE END";
        Harness.duePrints(String.format(choose, 3), 3);
        Harness.duePrints(String.format(choose, 2), 2, -3);
        Harness.duePrints(String.format(choose, 1), 1, -2, -3);
        NonLocalJump x = Harness.compiled("BEGIN PROC f PVAL a BEGIN IF REF a CALL f ARGV SUB REF a 1 DONE ELSE GOTO l FI END "
            + "CALL f ARGV 9 DONE LABEL l PRINT 1 END");
        x.run(20);
        Harness.due("before the jump: depth()", x.depth(), 10);
        x.run(1);
        Harness.dueState("after the jump", x, NonLocalJump.S_RUNNING, NonLocalJump.T_NONE, 21, 0);
        Harness.due("after the jump: run(1)", x.run(1), NonLocalJump.S_DONE);
    }

    private static void calls() {
        Harness.duePrints("BEGIN VAR a PROC f BEGIN SET a 5 END CALL f DONE PRINT REF a END", 5);
        Harness.duePrints("BEGIN VAR a PROC f BEGIN VAR a SET a 5 PRINT REF a END CALL f DONE PRINT REF a END", 5, 0);
        Harness.duePrints("BEGIN PROC f BEGIN VAR a PRINT REF a SET a 7 END CALL f DONE CALL f DONE END", 0, 0);
        Harness.duePrints("BEGIN PROC f PVAL a PVAL b PVAL c PVAL d BEGIN PRINT REF a PRINT REF b PRINT REF c PRINT REF d END "
            + "CALL f ARGV 1 ARGV 2 ARGV 3 ARGV 4 DONE END", 1, 2, 3, 4);
        Harness.duePrints("BEGIN VAR a PROC f PVAL a BEGIN SET a ADD REF a 1 PRINT REF a END "
            + "SET a 3 CALL f ARGV MUL REF a 2 DONE PRINT REF a END", 7, 3);
        Harness.duePrints("BEGIN VAR i PROC f PVAL n BEGIN IF REF n CALL f ARGV SUB REF n 1 DONE SET i MUL REF i REF n "
            + "ELSE SET i 1 FI END CALL f ARGV 10 DONE PRINT REF i END", 3628800);
        Harness.duePrints("BEGIN PROC f BEGIN VAR a PROC g BEGIN SET a ADD REF a 1 END CALL g DONE CALL g DONE PRINT REF a END "
            + "CALL f DONE CALL f DONE END", 2, 2);
        // The static parent, not the caller, tells which variable is meant.
        Harness.duePrints("BEGIN VAR a PROC f BEGIN PRINT REF a END PROC g BEGIN VAR a SET a 2 CALL f DONE END "
            + "SET a 1 CALL g DONE END", 1);
        Harness.duePrints("BEGIN PROC p PVAL p BEGIN PRINT REF p END CALL p ARGV 8 DONE END", 8);
    }

    private static void procedureValues() {
        Harness.duePrints("BEGIN PROC f PPROC a BEGIN CALL a DONE END PROC g BEGIN PRINT 1 END CALL f ARGP g DONE END", 1);
        Harness.duePrints("BEGIN PROC f PPROC a PVAL b BEGIN CALL a ARGV REF b DONE END PROC g PVAL c BEGIN PRINT REF c END "
            + "CALL f ARGP g ARGV 6 DONE END", 6);
        // A value keeps the activation it came from, however deep it is called.
        Harness.duePrints("BEGIN PROC f PVAL n PPROC a BEGIN VAR b PROC g BEGIN PRINT REF b END SET b REF n "
            + "IF REF n CALL a DONE CALL f ARGV SUB REF n 1 ARGP g DONE ELSE CALL a DONE FI END "
            + "PROC h BEGIN PRINT 100 END CALL f ARGV 3 ARGP h DONE END", 100, 3, 2, 1);
        Harness.duePrints("BEGIN PROC f PPROC a PPROC b BEGIN CALL a ARGP b DONE END PROC g PPROC c BEGIN CALL c DONE END "
            + "PROC h BEGIN PRINT 4 END CALL f ARGP g ARGP h DONE END", 4);
        // A procedure can be handed itself.
        Harness.duePrints("BEGIN PROC f PPROC a PVAL n BEGIN PRINT REF n IF REF n CALL a ARGP a ARGV SUB REF n 1 DONE FI END "
            + "CALL f ARGP f ARGV 2 DONE END", 2, 1, 0);
        Harness.duePrints(MAN_OR_BOY, 2);
    }

    private static void divTraps() {
        int div = NonLocalJump.T_DIV;
        Harness.dueTrap("BEGIN PRINT DIV 1 0 PRINT 2 END", div, 1, 0);
        Harness.dueTrap("BEGIN PRINT MOD 1 0 END", div, 1, 0);
        Harness.dueTrap("BEGIN PRINT DIV 0 0 END", div, 1, 0);
        Harness.dueTrap("BEGIN PRINT MUL 0 DIV " + MIN + " 0 END", div, 1, 0);
        Harness.dueTrap("BEGIN PRINT DIV MOD 5 0 DIV 5 0 END", div, 1, 0);
        Harness.dueTrap("BEGIN IF DIV 1 0 PRINT 1 ELSE PRINT 2 FI END", div, 1, 0);
        Harness.dueTrap("BEGIN PRINT ADD DIV 1 0 DIV 1 1 END", div, 1, 0);
        NonLocalJump x = Harness.compiled("BEGIN VAR a SET a 3 SET a ADD 1 DIV 8 SUB REF a 3 SET a 5 END");
        Harness.due("SET that traps: run(9)", x.run(9), NonLocalJump.S_TRAP);
        Harness.dueState("SET that traps", x, NonLocalJump.S_TRAP, div, 2, 0);
        Harness.due("SET that traps: mainVar(0)", x.mainVar(0), 3);
        NonLocalJump y = Harness.compiled("BEGIN PROC f BEGIN PRINT 1 PRINT DIV 1 0 END CALL f DONE END");
        y.run(9);
        Harness.dueState("PRINT that traps", y, NonLocalJump.S_TRAP, div, 3, 1);
        Harness.dueOutput("PRINT that traps", y, 1);
    }

    private static void argTraps() {
        int wrong = NonLocalJump.T_ARGS;
        String f = "BEGIN PROC f PVAL a PPROC b BEGIN PRINT 1 END PROC g BEGIN END ";
        Harness.duePrints(f + "CALL f ARGV 1 ARGP g DONE END", 1);
        Harness.dueTrap(f + "CALL f DONE END", wrong, 1, 0);
        Harness.dueTrap(f + "CALL f ARGV 1 DONE END", wrong, 1, 0);
        Harness.dueTrap(f + "CALL f ARGV 1 ARGP g ARGV 1 DONE END", wrong, 1, 0);
        Harness.dueTrap(f + "CALL f ARGP g ARGV 1 DONE END", wrong, 1, 0);
        Harness.dueTrap(f + "CALL f ARGV 1 ARGV 1 DONE END", wrong, 1, 0);
        Harness.dueTrap(f + "CALL f ARGP g ARGP g DONE END", wrong, 1, 0);
        Harness.dueTrap(f + "CALL g ARGV 1 DONE END", wrong, 1, 0);
        Harness.dueTrap(f + "CALL g " + Harness.repeat("ARGV 1", 110) + "DONE END", wrong, 1, 0);
        Harness.dueTrap(f + "CALL g " + Harness.repeat("ARGP f", 200) + "DONE END", wrong, 1, 0);
        Harness.dueTrap("BEGIN PROC f PVAL a PVAL b PVAL c PVAL d BEGIN END CALL f "
            + Harness.repeat("ARGV 1", 5) + "DONE END", wrong, 1, 0);
        // The count is that of the procedure that the value names.
        Harness.dueTrap("BEGIN PROC f PPROC a BEGIN CALL a DONE END PROC g PVAL b BEGIN END CALL f ARGP g DONE END", wrong, 2, 1);
        // Arguments are evaluated before they are counted.
        Harness.dueTrap(f + "CALL g ARGV DIV 1 0 DONE END", NonLocalJump.T_DIV, 1, 0);
        Harness.dueTrap(f + "CALL g " + Harness.repeat("ARGV 1", 9) + "ARGV MOD 1 0 DONE END", NonLocalJump.T_DIV, 1, 0);
    }

    private static void depthTraps() {
        NonLocalJump x = Harness.compiled(2, "BEGIN PROC f PVAL n BEGIN IF REF n CALL f ARGV SUB REF n 1 DONE FI END "
            + "CALL f ARGV 1 DONE CALL f ARGV 2 DONE END");
        Harness.due("depth limit 2: run(256)", x.run(256), NonLocalJump.S_TRAP);
        Harness.dueState("depth limit 2", x, NonLocalJump.S_TRAP, NonLocalJump.T_DEPTH, 9, 2);
        // Wrong arguments are found before the depth, and a division by 0 before both.
        String f = "BEGIN PROC g BEGIN END PROC f BEGIN CALL g %s DONE END CALL f DONE END";
        String[] given = {"", "ARGV 1", "ARGV DIV 1 0"};
        int[] due = {NonLocalJump.T_DEPTH, NonLocalJump.T_ARGS, NonLocalJump.T_DIV};
        for (int i = 0; i < given.length; i++) {
            NonLocalJump y = Harness.compiled(1, String.format(f, given[i]));
            y.run(256);
            Harness.dueState("at the limit, arguments " + given[i], y, NonLocalJump.S_TRAP, due[i], 2, 1);
        }
        // A jump frees the depth that it leaves.
        NonLocalJump z = Harness.compiled(1, "BEGIN VAR i PROC f BEGIN GOTO l END LABEL l SET i ADD REF i 1 IF LT REF i 50 CALL f DONE FI END");
        Harness.due("jumps at the limit: run(256)", z.run(256), NonLocalJump.S_DONE);
        Harness.due("jumps at the limit: mainVar(8)", z.mainVar(8), 50);
    }

    private static void outputTraps() {
        NonLocalJump x = Harness.compiled("BEGIN VAR i LABEL l PRINT REF i SET i ADD REF i 1 GOTO l END");
        Harness.due("printing for ever: run(256)", x.run(256), NonLocalJump.S_TRAP);
        Harness.dueState("printing for ever", x, NonLocalJump.S_TRAP, NonLocalJump.T_OUTPUT, 98, 0);
        Harness.due("printing for ever: outputCount()", x.outputCount(), 32);
        Harness.due("printing for ever: output(31)", x.output(31), 31);
        Harness.dueTrap("BEGIN " + Harness.repeat("PRINT 1", 33) + "END", NonLocalJump.T_OUTPUT, 33, 0);
        Harness.dueTrap("BEGIN " + Harness.repeat("PRINT 1", 32) + "PRINT DIV 1 0 END", NonLocalJump.T_DIV, 33, 0);
        NonLocalJump y = Harness.compiled("BEGIN " + Harness.repeat("PRINT 1", 32) + "END");
        Harness.due("32 values: run(32)", y.run(32), NonLocalJump.S_DONE);
    }

    private static void slicing() {
        String[] programs = {
            MAN_OR_BOY,
            "BEGIN VAR i LABEL l PRINT REF i SET i ADD REF i 1 GOTO l END",
            "BEGIN PROC f BEGIN CALL f DONE END CALL f DONE END",
            "BEGIN VAR i PROC f PVAL n BEGIN SET i REF n IF LT REF n 9 CALL f ARGV ADD REF n 1 DONE ELSE GOTO l FI END "
                + "LABEL l CALL f ARGV 0 DONE END",
            "BEGIN END"};
        int[][] slices = {{1}, {2}, {3, 1}, {7, -5, 0}, {13}, {100, 1}};
        for (String program : programs) {
            List<int[]> tokens = Harness.tokens(program);
            for (int[] slice : slices) {
                NonLocalJump x = Harness.feed(new NonLocalJump(12), tokens);
                x.compile();
                int total = 0;
                for (int i = 0; total < 250; i++) {
                    int fuel = slice[i % slice.length];
                    x.run(fuel);
                    total += Math.max(1, fuel);
                    NonLocalJump y = Harness.feed(new NonLocalJump(12), tokens);
                    y.compile();
                    for (int left = total; left > 0; left -= 256) {
                        y.run(left);
                    }
                    Harness.dueSame(program + " after " + total, x, y);
                    Harness.due("executed() is at most the fuel", x.executed() <= total, true);
                    if (x.status() == NonLocalJump.S_RUNNING) {
                        Harness.due("executed() is the fuel", x.executed(), total);
                    }
                }
            }
        }
    }
}
