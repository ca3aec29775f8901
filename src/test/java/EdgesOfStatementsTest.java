/** "Statements": each sentence that names an edge has a test of its own. A ".." stands where the document's words are left out. */
public final class EdgesOfStatementsTest {
    private static final int MIN = Integer.MIN_VALUE;
    private static final int MAX = Integer.MAX_VALUE;
    private static final int RUNNING = NonLocalJump.S_RUNNING;
    private static final int DONE = NonLocalJump.S_DONE;
    private static final int TRAP = NonLocalJump.S_TRAP;

    // Calls itself n levels deep with the greatest n at the start, then does what is put in.
    private static final String DEEPER = "BEGIN PROC g BEGIN END PROC f PVAL n BEGIN IF REF n CALL f ARGV SUB REF n 1 DONE ELSE %s FI END "
        + "CALL f ARGV %d DONE END";

    public static void main(String[] args) {
        statements();
        gotos();
        calls();
        Harness.finish();
    }

    private static void statements() {
        Harness.sentence("Statements are executed in the current activation C, which is always the newest live one.",
            EdgesOfStatementsTest::newestIsCurrent);
        Harness.sentence("LABEL n: nothing more.", EdgesOfStatementsTest::labels);
        Harness.sentence("SET n e: evaluate e; store it in variable n of the activation found for n from C.", EdgesOfStatementsTest::sets);
        Harness.sentence("PRINT e: evaluate e; if MAX_OUTPUT values are printed already, trap T_OUTPUT", EdgesOfStatementsTest::printWhenFull);
        Harness.sentence("else append the value to the output.", EdgesOfStatementsTest::printUntilFull);
        Harness.sentence("if it is not 0 run S1, else S2", EdgesOfStatementsTest::branches);
        Harness.sentence("(nothing if there is no ELSE); then go on after FI.", EdgesOfStatementsTest::noElse);
    }

    private static void gotos() {
        Harness.sentence("All activations newer than A are discarded", EdgesOfStatementsTest::newerAreDiscarded);
        Harness.sentence("all IF statements in progress in A are abandoned", EdgesOfStatementsTest::ifsAreAbandoned);
        Harness.sentence("and execution goes on in A with the statement after LABEL n in the top-level list of A's body.",
            EdgesOfStatementsTest::afterTheLabel);
        Harness.sentence("If LABEL n is the last one there, A's body ends at once (a return ..", EdgesOfStatementsTest::lastLabelReturns);
        Harness.sentence("If LABEL n is the last one there, A's body ends at once .. the end of the program).", EdgesOfStatementsTest::lastLabelEnds);
        Harness.sentence("A may be C itself", EdgesOfStatementsTest::jumpInPlace);
        Harness.sentence("or an activation among many recursive instances of the same body; exactly the one reached along the static parents "
            + "is meant.", EdgesOfStatementsTest::jumpAmongInstances);
    }

    private static void calls() {
        Harness.sentence("first take the value (Q, E) of procedure name p from C; then the arguments left to right: ARGV e evaluates e in C",
            EdgesOfStatementsTest::argumentsInCaller);
        Harness.sentence("ARGP q takes the value of procedure name q from C.", EdgesOfStatementsTest::proceduresFromCaller);
        Harness.sentence("if the count of arguments differs from Q's count of parameters .. trap T_ARGS", EdgesOfStatementsTest::wrongCount);
        Harness.sentence("or an ARGV stands at a PPROC position .. trap T_ARGS", EdgesOfStatementsTest::valueForProcedure);
        Harness.sentence("or an ARGP at a PVAL position, trap T_ARGS", EdgesOfStatementsTest::procedureForValue);
        Harness.sentence("else if depth() equals the depth limit, trap T_DEPTH", EdgesOfStatementsTest::tooDeep);
        Harness.sentence("trap T_ARGS; else if depth() equals the depth limit", EdgesOfStatementsTest::argumentsBeforeDepth);
        Harness.sentence("else a new activation of Q's body is made with static parent E", EdgesOfStatementsTest::staticParent);
        Harness.sentence("its VARs 0", EdgesOfStatementsTest::variablesAreZero);
        Harness.sentence("and its parameters bound in order to the argument values", EdgesOfStatementsTest::boundInOrder);
        Harness.sentence("depth() grows by 1 and Q's body runs in it.", EdgesOfStatementsTest::depthGrows);
        Harness.sentence("When the end of that body is reached the activation is discarded (depth() drops by 1)", EdgesOfStatementsTest::depthDrops);
        Harness.sentence("and execution goes on after the DONE of the call, in the caller's activation.", EdgesOfStatementsTest::backToTheCaller);
        Harness.sentence("A procedure value called deep inside other procedures thus still sees the variables of the activation it came from.",
            EdgesOfStatementsTest::seesItsHome);
        Harness.sentence("When the end of the main body is reached, status becomes S_DONE and depth() is 0.", EdgesOfStatementsTest::endOfMain);
    }

    private static void newestIsCurrent() {
        NonLocalJump x = Harness.compiled("BEGIN VAR a PROC f PVAL a BEGIN PRINT REF a IF LT REF a 16 CALL f ARGV ADD REF a 1 DONE FI "
            + "SET a ADD REF a 100 PRINT REF a END CALL f ARGV 1 DONE PRINT REF a END");
        for (int level = 1; level <= 16; level++) {
            x.run(1);
            Harness.due("level " + level + ": seen(0)", x.seen(0), level);
            x.run(2);
        }
        Harness.due("the end: run(256)", x.run(256), TRAP);
        int[] due = new int[32];
        for (int level = 1; level <= 16; level++) {
            due[level - 1] = level;
            due[32 - level] = 100 + level;
        }
        Harness.dueOutput("each level prints its own", x, due);
    }

    private static void labels() {
        NonLocalJump x = Harness.compiled("BEGIN VAR a SET a 4 PRINT 5 LABEL b LABEL l LABEL m PRINT 6 END");
        x.run(2);
        for (int i = 0; i < 3; i++) {
            Harness.due("LABEL: run(1)", x.run(1), RUNNING);
            Harness.dueState("LABEL", x, RUNNING, NonLocalJump.T_NONE, 3 + i, 0);
            Harness.due("LABEL: mainVar(0)", x.mainVar(0), 4);
            Harness.dueOutput("LABEL", x, 5);
        }
        x.run(1);
        Harness.dueOutput("after the labels", x, 5, 6);
        Harness.due("a body of labels alone: run(3)", Harness.compiled("BEGIN LABEL a LABEL b LABEL c END").run(3), DONE);
    }

    private static void sets() {
        for (int value : new int[] {MIN, -1, 0, 1, MAX}) {
            NonLocalJump x = Harness.compiled("BEGIN VAR a PROC f BEGIN VAR b SET b " + value + " SET a REF b PRINT 1 END SET a 3 CALL f DONE END");
            x.run(3);
            Harness.due("SET of an own variable: seen(1)", x.seen(1), value);
            Harness.due("SET of an own variable: mainVar(0)", x.mainVar(0), 3);
            x.run(1);
            Harness.due("SET of an outer variable: mainVar(0)", x.mainVar(0), value);
        }
        // The value is found before it is stored, and the other variables stay.
        Harness.duePrints("BEGIN VAR a VAR b SET a 2 SET b 7 SET a ADD REF a MUL REF a REF b PRINT REF a PRINT REF b END", 16, 7);
        Harness.duePrints("BEGIN PROC f PVAL n BEGIN IF REF n CALL f ARGV SUB REF n 1 DONE FI SET n ADD REF n 10 PRINT REF n END "
            + "CALL f ARGV 2 DONE END", 10, 11, 12);
    }

    private static void printWhenFull() {
        NonLocalJump x = Harness.compiled("BEGIN " + Harness.repeat("PRINT 4", 32) + "PRINT 5 PRINT 6 END");
        Harness.due("32 values: run(32)", x.run(32), RUNNING);
        Harness.dueState("32 values", x, RUNNING, NonLocalJump.T_NONE, 32, 0);
        Harness.due("one value more: run(1)", x.run(1), TRAP);
        Harness.dueState("one value more", x, TRAP, NonLocalJump.T_OUTPUT, 33, 0);
        Harness.due("one value more: outputCount()", x.outputCount(), 32);
        Harness.due("one value more: output(31)", x.output(31), 4);
        Harness.due("one value more: output(32)", x.output(32), 0);
        // The expression comes first, so a division by 0 in it is what traps.
        Harness.dueTrap("BEGIN " + Harness.repeat("PRINT 1", 32) + "PRINT DIV 1 0 END", NonLocalJump.T_DIV, 33, 0);
        Harness.dueTrap("BEGIN " + Harness.repeat("PRINT 1", 32) + "PRINT MOD 1 0 END", NonLocalJump.T_DIV, 33, 0);
    }

    private static void printUntilFull() {
        StringBuilder text = new StringBuilder("BEGIN ");
        int[] due = new int[32];
        for (int i = 0; i < 32; i++) {
            due[i] = i % 2 == 0 ? MIN + i : MAX - i;
            text.append("PRINT ").append(due[i]).append(' ');
        }
        NonLocalJump x = Harness.compiled(text + "END");
        for (int i = 0; i < 32; i++) {
            Harness.due("outputCount() before value " + i, x.outputCount(), i);
            x.run(1);
            Harness.due("output(" + i + ")", x.output(i), due[i]);
        }
        Harness.dueState("32 values and the end", x, DONE, NonLocalJump.T_NONE, 32, 0);
        Harness.dueOutput("32 values", x, due);
    }

    private static void branches() {
        for (int value : new int[] {MIN, MIN + 1, -2, -1, 1, 2, 256, 65536, MAX}) {
            Harness.duePrints("BEGIN IF " + value + " PRINT 1 PRINT 2 ELSE PRINT 3 PRINT 4 FI PRINT 5 END", 1, 2, 5);
        }
        Harness.duePrints("BEGIN IF 0 PRINT 1 PRINT 2 ELSE PRINT 3 PRINT 4 FI PRINT 5 END", 3, 4, 5);
        Harness.duePrints("BEGIN IF ADD " + MIN + " " + MIN + " PRINT 1 ELSE PRINT 2 FI END", 2);
        Harness.duePrints("BEGIN IF 1 ELSE PRINT 3 FI IF 0 PRINT 1 ELSE FI PRINT 5 END", 5);
        Harness.duePrints("BEGIN IF 0 IF 1 PRINT 1 ELSE PRINT 2 FI ELSE IF 0 PRINT 3 ELSE IF 1 PRINT 4 ELSE PRINT 5 FI FI FI END", 4);
    }

    private static void noElse() {
        Harness.duePrints("BEGIN IF 0 PRINT 1 FI END");
        Harness.duePrints("BEGIN IF 0 PRINT 1 FI PRINT 2 END", 2);
        Harness.duePrints("BEGIN IF 0 FI IF 1 FI PRINT 2 END", 2);
        Harness.duePrints("BEGIN IF 0 IF 1 PRINT 1 ELSE PRINT 3 FI PRINT 4 FI PRINT 5 END", 5);
        Harness.duePrints("BEGIN IF 1 IF 0 PRINT 1 FI PRINT 2 ELSE PRINT 3 FI PRINT 4 END", 2, 4);
        Harness.duePrints("BEGIN PROC f BEGIN IF 0 PRINT 1 FI END CALL f DONE PRINT 2 END", 2);
    }

    private static void newerAreDiscarded() {
        for (int levels = 1; levels <= 16; levels++) {
            NonLocalJump x = Harness.compiled("BEGIN PROC f PVAL n BEGIN IF REF n CALL f ARGV SUB REF n 1 DONE PRINT 1 ELSE GOTO l FI PRINT 2 END "
                + "CALL f ARGV " + (levels - 1) + " DONE PRINT 3 LABEL l PRINT 4 END");
            x.run(2 * levels);
            Harness.due("before the jump out of " + levels + ": depth()", x.depth(), levels);
            x.run(1);
            Harness.due("after the jump out of " + levels + ": depth()", x.depth(), 0);
            x.run(256);
            Harness.dueOutput("after the jump out of " + levels, x, 4);
        }
        // The room that a jump frees can be used again, and what was there is forgotten.
        NonLocalJump y = Harness.compiled(1, "BEGIN VAR i PROC f BEGIN VAR a SET a ADD REF a 1 PRINT REF a GOTO l END "
            + "LABEL l SET i ADD REF i 1 IF LT REF i 20 CALL f DONE FI END");
        Harness.due("nineteen jumps at limit 1: run(256)", y.run(256), DONE);
        Harness.due("nineteen jumps at limit 1: outputCount()", y.outputCount(), 19);
        Harness.due("nineteen jumps at limit 1: output(18)", y.output(18), 1);
    }

    private static void ifsAreAbandoned() {
        Harness.duePrints("BEGIN IF 1 IF 1 GOTO l PRINT 1 FI PRINT 2 ELSE PRINT 3 FI PRINT 4 LABEL l PRINT 5 END", 5);
        Harness.duePrints("BEGIN VAR i LABEL l SET i ADD REF i 1 IF LT REF i 4 PRINT REF i GOTO l FI IF 0 PRINT 8 ELSE PRINT 9 FI END", 1, 2, 3, 9);
        // The IF in main that the call stands in is left too, as are those of the procedure.
        Harness.duePrints("BEGIN PROC f BEGIN IF 1 IF 0 ELSE GOTO l FI FI PRINT 1 END IF 1 IF 1 CALL f DONE PRINT 2 FI PRINT 3 ELSE PRINT 4 FI "
            + "PRINT 5 LABEL l PRINT 6 END", 6);
        // An IF of the caller of A stays in progress.
        Harness.duePrints("BEGIN PROC f BEGIN IF 1 GOTO l FI PRINT 1 LABEL l PRINT 2 END IF 1 CALL f DONE PRINT 3 ELSE PRINT 4 FI PRINT 5 END", 2, 3, 5);
        NonLocalJump x = Harness.compiled("BEGIN LABEL l " + Harness.repeat("IF 1", 80) + "GOTO l " + Harness.repeat("FI", 80) + "END");
        Harness.due("jumps out of eighty IFs: run(256)", x.run(256), RUNNING);
        Harness.due("jumps out of eighty IFs: run(256) again", x.run(256), RUNNING);
        Harness.due("jumps out of eighty IFs: executed()", x.executed(), 512);
    }

    private static void afterTheLabel() {
        NonLocalJump x = Harness.compiled("BEGIN GOTO l PRINT 1 LABEL k LABEL l PRINT 2 END");
        x.run(2);
        // The label itself is passed: only the GOTO and the PRINT were begun.
        Harness.dueState("GOTO and PRINT", x, DONE, NonLocalJump.T_NONE, 2, 0);
        Harness.dueOutput("GOTO and PRINT", x, 2);
        Harness.duePrints("BEGIN GOTO c LABEL a PRINT 1 GOTO d LABEL b PRINT 2 GOTO a LABEL c PRINT 3 GOTO b LABEL d PRINT 4 END", 3, 2, 1, 4);
        Harness.duePrints("BEGIN PROC f BEGIN GOTO l END CALL f DONE PRINT 1 LABEL k PRINT 2 LABEL l LABEL m PRINT 3 END", 3);
        NonLocalJump tight = Harness.compiled("BEGIN LABEL l GOTO l END");
        tight.run(256);
        Harness.due("a jump to itself: executed()", tight.executed(), 256);
        Harness.due("a jump to itself: status()", tight.status(), RUNNING);
    }

    private static void lastLabelReturns() {
        NonLocalJump x = Harness.compiled("BEGIN PROC f BEGIN PRINT 1 GOTO l PRINT 2 LABEL l END CALL f DONE PRINT 3 END");
        x.run(3);
        Harness.dueState("after the jump to the end", x, RUNNING, NonLocalJump.T_NONE, 3, 0);
        Harness.due("after the return: run(1)", x.run(1), DONE);
        Harness.dueOutput("after the return", x, 1, 3);
        // From two levels further in, and from inside an IF of the caller.
        NonLocalJump y = Harness.compiled("BEGIN PROC f BEGIN PROC g BEGIN PROC h BEGIN GOTO l END CALL h DONE PRINT 1 END CALL g DONE PRINT 2 LABEL l END "
            + "IF 1 CALL f DONE PRINT 3 FI PRINT 4 END");
        y.run(5);
        Harness.dueState("after the jump out of h and g", y, RUNNING, NonLocalJump.T_NONE, 5, 0);
        y.run(2);
        Harness.dueOutput("after the jump out of h and g", y, 3, 4);
        // The return goes on through the ends of the callers.
        NonLocalJump z = Harness.compiled("BEGIN PROC f PVAL n BEGIN IF REF n CALL f ARGV SUB REF n 1 DONE FI GOTO l PRINT 1 LABEL l END "
            + "CALL f ARGV 15 DONE END");
        Harness.due("sixteen jumps to the end: run(48)", z.run(48), DONE);
        Harness.dueState("sixteen jumps to the end", z, DONE, NonLocalJump.T_NONE, 48, 0);
    }

    private static void lastLabelEnds() {
        NonLocalJump x = Harness.compiled("BEGIN PRINT 1 GOTO l PRINT 2 LABEL l END");
        Harness.due("a jump to the end: run(2)", x.run(2), DONE);
        Harness.dueState("a jump to the end", x, DONE, NonLocalJump.T_NONE, 2, 0);
        NonLocalJump y = Harness.compiled("BEGIN PROC f PVAL n BEGIN IF REF n CALL f ARGV SUB REF n 1 DONE ELSE GOTO l FI END "
            + "IF 1 CALL f ARGV 15 DONE FI PRINT 1 LABEL l END");
        Harness.due("before the jump out of sixteen: run(33)", y.run(33), RUNNING);
        Harness.due("before the jump out of sixteen: depth()", y.depth(), 16);
        Harness.due("the jump out of sixteen to the end: run(1)", y.run(1), DONE);
        Harness.dueState("the jump out of sixteen to the end", y, DONE, NonLocalJump.T_NONE, 34, 0);
        Harness.due("the jump out of sixteen to the end: outputCount()", y.outputCount(), 0);
        Harness.due("a jump over nothing: run(1)", Harness.compiled("BEGIN GOTO l LABEL l END").run(1), DONE);
    }

    private static void jumpInPlace() {
        NonLocalJump x = Harness.compiled("BEGIN PROC f PVAL n BEGIN VAR a SET a 6 GOTO l PRINT 1 LABEL l SET a ADD REF a REF n PRINT REF a END "
            + "CALL f ARGV 3 DONE END");
        x.run(3);
        Harness.dueState("after a jump in place", x, RUNNING, NonLocalJump.T_NONE, 3, 1);
        // Nothing of C is lost: its variables and parameters stay.
        Harness.due("after a jump in place: seen(0)", x.seen(0), 6);
        Harness.due("after a jump in place: seen(13)", x.seen(13), 3);
        x.run(256);
        Harness.dueOutput("after a jump in place", x, 9);
        Harness.duePrints("BEGIN VAR i LABEL l SET i ADD REF i 1 IF LT REF i 50 GOTO l FI PRINT REF i END", 50);
    }

    private static void jumpAmongInstances() {
        // Level n hands its own g on; the last level calls it, and exactly that level goes on at its label.
        String chosen = "BEGIN PROC f PVAL n PPROC m BEGIN PROC g BEGIN GOTO l END "
            + "IF EQ REF n 0 CALL m DONE FI IF EQ REF n %d CALL f ARGV SUB REF n 1 ARGP g DONE FI "
            + "CALL f ARGV SUB REF n 1 ARGP m DONE LABEL l PRINT REF n END PROC h BEGIN END CALL f ARGV 14 ARGP h DONE END";
        for (int level = 1; level <= 14; level++) {
            NonLocalJump x = Harness.compiled(String.format(chosen, level));
            for (int i = 0; i < 60 && x.depth() < 16; i++) {
                x.run(1);
            }
            Harness.due("level " + level + ", in g: depth()", x.depth(), 16);
            x.run(1);
            Harness.due("level " + level + ", after the jump: depth()", x.depth(), 15 - level);
            Harness.due("level " + level + ", after the jump: seen(13)", x.seen(13), level);
            x.run(256);
            int[] due = new int[15 - level];
            for (int i = 0; i < due.length; i++) {
                due[i] = level + i;
            }
            Harness.dueOutput("level " + level, x, due);
        }
    }

    private static void argumentsInCaller() {
        Harness.duePrints("BEGIN VAR a PROC f PVAL a PVAL b BEGIN PRINT REF a PRINT REF b END SET a 5 CALL f ARGV ADD REF a 1 ARGV REF a DONE END", 6, 5);
        Harness.duePrints("BEGIN PROC f PVAL a PVAL b BEGIN PRINT REF a PRINT REF b IF REF a CALL f ARGV REF b ARGV REF a DONE FI END "
            + "CALL f ARGV 3 ARGV 0 DONE END", 3, 0, 0, 3);
        // p of the call is looked for in C, not in the callee, which has an f of its own.
        Harness.duePrints("BEGIN PROC f PVAL f BEGIN PRINT REF f END CALL f ARGV 2 DONE END", 2);
        // A division by 0 in a later argument, beyond the parameters too, traps.
        Harness.dueTrap("BEGIN PROC f PVAL a PVAL b BEGIN END CALL f ARGV 1 ARGV DIV 1 0 DONE END", NonLocalJump.T_DIV, 1, 0);
        Harness.dueTrap("BEGIN PROC f BEGIN END CALL f ARGV DIV 1 0 DONE END", NonLocalJump.T_DIV, 1, 0);
        Harness.dueTrap("BEGIN PROC f BEGIN END CALL f " + Harness.repeat("ARGV 1", 5) + "ARGV MOD 1 0 DONE END", NonLocalJump.T_DIV, 1, 0);
    }

    private static void proceduresFromCaller() {
        Harness.duePrints("BEGIN PROC f PPROC g BEGIN CALL g DONE END PROC g BEGIN PRINT 1 END CALL f ARGP g DONE END", 1);
        // g of the caller, though the callee has a g of its own.
        Harness.duePrints("BEGIN PROC f PPROC a BEGIN PROC g BEGIN PRINT 2 END CALL a DONE CALL g DONE END "
            + "PROC h PVAL n BEGIN PROC g BEGIN PRINT REF n END CALL f ARGP g DONE END CALL h ARGV 8 DONE END", 8, 2);
        // g that is nearest to the caller, though main has one too.
        Harness.duePrints("BEGIN PROC g BEGIN PRINT 1 END PROC f PPROC a BEGIN CALL a DONE END PROC h BEGIN PROC g BEGIN PRINT 2 END CALL f ARGP g DONE END "
            + "CALL h DONE CALL f ARGP g DONE END", 2, 1);
        Harness.duePrints("BEGIN PROC f PPROC a PPROC b BEGIN CALL b DONE CALL a DONE END PROC g BEGIN PRINT 1 END PROC h BEGIN PRINT 2 END "
            + "CALL f ARGP g ARGP h DONE CALL f ARGP h ARGP h DONE END", 2, 1, 2, 2);
    }

    private static void wrongCount() {
        String[] params = {"", "PVAL a ", "PVAL a PVAL b ", "PVAL a PVAL b PVAL c ", "PVAL a PVAL b PVAL c PVAL d "};
        String[] procParams = {"", "PPROC a ", "PPROC a PPROC b ", "PPROC a PPROC b PPROC c ", "PPROC a PPROC b PPROC c PPROC d "};
        for (int wanted = 0; wanted <= 4; wanted++) {
            for (int given = 0; given <= 6; given++) {
                String values = "BEGIN PROC f " + params[wanted] + "BEGIN PRINT 7 END CALL f " + Harness.repeat("ARGV 1", given) + "DONE END";
                String procedures = "BEGIN PROC f " + procParams[wanted] + "BEGIN PRINT 7 END CALL f " + Harness.repeat("ARGP f", given) + "DONE END";
                for (String program : new String[] {values, procedures}) {
                    if (given == wanted) {
                        Harness.duePrints(program, 7);
                    } else {
                        Harness.dueTrap(program, NonLocalJump.T_ARGS, 1, 0);
                    }
                }
            }
        }
        Harness.dueTrap("BEGIN PROC f BEGIN END CALL f " + Harness.repeat("ARGP f", 249) + "DONE END", NonLocalJump.T_ARGS, 1, 0);
        // It is Q that counts, the procedure behind a PPROC name.
        Harness.dueTrap("BEGIN PROC f PPROC a BEGIN CALL a DONE END PROC g PVAL b BEGIN END CALL f ARGP g DONE END", NonLocalJump.T_ARGS, 2, 1);
        Harness.dueTrap("BEGIN PROC f PPROC a BEGIN CALL a ARGV 1 DONE END PROC g BEGIN END CALL f ARGP g DONE END", NonLocalJump.T_ARGS, 2, 1);
    }

    /** A call with four arguments for four parameters, of which one is of the kind that is not wanted. */
    private static void dueOneWrong(String param, String argument, String wrong) {
        for (int at = 0; at < 4; at++) {
            StringBuilder params = new StringBuilder();
            StringBuilder arguments = new StringBuilder();
            for (int i = 0; i < 4; i++) {
                params.append(param).append(' ').append((char) ('a' + i)).append(' ');
                arguments.append(i == at ? wrong : argument).append(' ');
            }
            Harness.dueTrap("BEGIN PROC f " + params + "BEGIN END CALL f " + arguments + "DONE END", NonLocalJump.T_ARGS, 1, 0);
        }
    }

    private static void valueForProcedure() {
        dueOneWrong("PPROC", "ARGP f", "ARGV 0");
        Harness.dueTrap("BEGIN PROC f PPROC a BEGIN END CALL f ARGV 0 DONE END", NonLocalJump.T_ARGS, 1, 0);
        Harness.dueTrap("BEGIN PROC f PVAL a PPROC b BEGIN END CALL f ARGV 0 ARGV 0 DONE END", NonLocalJump.T_ARGS, 1, 0);
        Harness.dueTrap("BEGIN PROC f PPROC a BEGIN CALL a ARGV 0 DONE END CALL f ARGP f DONE END", NonLocalJump.T_ARGS, 2, 1);
    }

    private static void procedureForValue() {
        dueOneWrong("PVAL", "ARGV 0", "ARGP f");
        Harness.dueTrap("BEGIN PROC f PVAL a BEGIN END CALL f ARGP f DONE END", NonLocalJump.T_ARGS, 1, 0);
        Harness.dueTrap("BEGIN PROC f PVAL a PPROC b BEGIN END CALL f ARGP f ARGP f DONE END", NonLocalJump.T_ARGS, 1, 0);
        Harness.dueTrap("BEGIN PROC f PVAL a PPROC b BEGIN END CALL f ARGP f ARGV 0 DONE END", NonLocalJump.T_ARGS, 1, 0);
    }

    private static void tooDeep() {
        for (int limit = 1; limit <= 16; limit++) {
            NonLocalJump x = Harness.compiled(limit, String.format(DEEPER, "PRINT 1", limit - 1));
            Harness.due("as deep as limit " + limit + ": run(256)", x.run(256), DONE);
            NonLocalJump y = Harness.compiled(limit, String.format(DEEPER, "CALL g DONE", limit - 1));
            Harness.due("one deeper than limit " + limit + ": run(256)", y.run(256), TRAP);
            Harness.dueState("one deeper than limit " + limit, y, TRAP, NonLocalJump.T_DEPTH, 2 * limit + 1, limit);
        }
        // It is the depth at once that counts, not how many calls there were.
        NonLocalJump z = Harness.compiled(1, "BEGIN PROC f BEGIN END " + Harness.repeat("CALL f DONE", 100) + "END");
        Harness.due("a hundred calls at limit 1: run(100)", z.run(100), DONE);
    }

    private static void argumentsBeforeDepth() {
        NonLocalJump x = Harness.compiled(1, String.format(DEEPER, "CALL g ARGV 1 DONE", 0));
        x.run(256);
        Harness.dueState("too many arguments at the limit", x, TRAP, NonLocalJump.T_ARGS, 3, 1);
        NonLocalJump y = Harness.compiled(16, String.format(DEEPER, "CALL f DONE", 15));
        y.run(256);
        Harness.dueState("too few arguments at the limit", y, TRAP, NonLocalJump.T_ARGS, 33, 16);
        NonLocalJump z = Harness.compiled(2, String.format(DEEPER, "CALL f ARGP g DONE", 1));
        z.run(256);
        Harness.dueState("a wrong argument at the limit", z, TRAP, NonLocalJump.T_ARGS, 5, 2);
        NonLocalJump w = Harness.compiled(2, String.format(DEEPER, "CALL g ARGV DIV 1 0 DONE", 1));
        w.run(256);
        Harness.dueState("a division by 0 at the limit", w, TRAP, NonLocalJump.T_DIV, 5, 2);
    }

    private static void staticParent() {
        Harness.duePrints("BEGIN VAR a PROC f BEGIN PRINT REF a END PROC g BEGIN VAR a SET a 2 CALL f DONE END SET a 1 CALL g DONE END", 1);
        Harness.duePrints("BEGIN PROC f PVAL n PPROC m BEGIN PROC g BEGIN PRINT REF n END IF REF n CALL f ARGV 0 ARGP g DONE ELSE CALL m DONE FI END "
            + "PROC h BEGIN END CALL f ARGV 6 ARGP h DONE END", 6);
    }

    private static void variablesAreZero() {
        Harness.duePrints("BEGIN PROC f BEGIN VAR a VAR p PRINT REF a PRINT REF p SET a 7 SET p 8 END CALL f DONE CALL f DONE END", 0, 0, 0, 0);
        // Also in the room that another procedure, a parameter or a jump has left something in.
        Harness.duePrints("BEGIN PROC f PVAL a PPROC b BEGIN END PROC g BEGIN VAR a VAR b PRINT REF a PRINT REF b END CALL f ARGV 9 ARGP f DONE CALL g DONE END",
            0, 0);
        Harness.duePrints("BEGIN PROC f PVAL n BEGIN VAR a PRINT REF a SET a 5 IF REF n CALL f ARGV SUB REF n 1 DONE FI END CALL f ARGV 3 DONE "
            + "CALL f ARGV 1 DONE END", 0, 0, 0, 0, 0, 0);
        Harness.duePrints("BEGIN VAR i PROC f BEGIN VAR a PRINT REF a SET a 5 GOTO l END LABEL l SET i ADD REF i 1 IF LT REF i 4 CALL f DONE FI END", 0, 0, 0);
    }

    private static void boundInOrder() {
        Harness.duePrints("BEGIN PROC f PVAL d PVAL a PVAL c PVAL b BEGIN PRINT REF a PRINT REF b PRINT REF c PRINT REF d END "
            + "CALL f ARGV 1 ARGV 2 ARGV 3 ARGV 4 DONE END", 2, 4, 3, 1);
        Harness.duePrints("BEGIN PROC f PPROC d PVAL a PPROC c PVAL b BEGIN PRINT REF a CALL c DONE PRINT REF b CALL d DONE END "
            + "PROC g BEGIN PRINT 10 END PROC h BEGIN PRINT 20 END CALL f ARGP g ARGV 1 ARGP h ARGV 2 DONE END", 1, 20, 2, 10);
        Harness.duePrints("BEGIN PROC f PVAL p BEGIN PRINT REF p END CALL f ARGV " + MIN + " DONE CALL f ARGV " + MAX + " DONE END", MIN, MAX);
    }

    private static void depthGrows() {
        NonLocalJump x = Harness.compiled("BEGIN PROC f BEGIN PRINT 1 CALL f DONE END PRINT 0 CALL f DONE END");
        for (int level = 0; level < 16; level++) {
            x.run(1);
            Harness.due("before the call: depth()", x.depth(), level);
            x.run(1);
            Harness.due("after the call: depth()", x.depth(), level + 1);
        }
        Harness.due("one in each body ran: outputCount()", x.outputCount(), 16);
    }

    private static void depthDrops() {
        NonLocalJump x = Harness.compiled("BEGIN PROC f PVAL n BEGIN IF REF n CALL f ARGV SUB REF n 1 DONE FI PRINT REF n END CALL f ARGV 15 DONE PRINT 99 END");
        x.run(32);
        for (int live = 16; live > 0; live--) {
            Harness.due("before the end of a body: depth()", x.depth(), live);
            Harness.due("before the end of a body: seen(13)", x.seen(13), 16 - live);
            x.run(1);
            Harness.due("after the end of a body: depth()", x.depth(), live - 1);
        }
        Harness.due("back in main: seen(13)", x.seen(13), 0);
    }

    private static void backToTheCaller() {
        Harness.duePrints("BEGIN PROC f BEGIN PRINT 1 END CALL f DONE PRINT 2 CALL f DONE PRINT 3 END", 1, 2, 1, 3);
        Harness.duePrints("BEGIN VAR a PROC f PVAL a BEGIN VAR b SET b REF a IF LT REF a 3 CALL f ARGV ADD REF a 1 DONE PRINT REF b FI PRINT REF a END "
            + "SET a 50 CALL f ARGV 1 DONE PRINT REF a END", 3, 2, 2, 1, 1, 50);
        Harness.duePrints("BEGIN PROC f PVAL a PPROC b BEGIN PRINT REF a END IF 1 CALL f ARGV ADD 1 MUL 2 3 ARGP f DONE PRINT 8 ELSE PRINT 9 FI END", 7, 8);
        Harness.duePrints("BEGIN PROC f BEGIN END CALL f DONE IF 1 CALL f DONE FI CALL f DONE PRINT 1 END", 1);
    }

    private static void seesItsHome() {
        // The value comes from level 14 of f, is handed down to the last level, and is called there.
        Harness.duePrints("BEGIN PROC f PVAL n PPROC m BEGIN VAR a PROC g BEGIN SET a ADD REF a 1 PRINT REF a END SET a MUL REF n 10 "
            + "IF EQ REF n 14 CALL f ARGV 13 ARGP g DONE PRINT REF a ELSE IF REF n CALL f ARGV SUB REF n 1 ARGP m DONE ELSE CALL m DONE FI FI END "
            + "PROC h BEGIN PRINT 99 END CALL f ARGV 14 ARGP h DONE END", 141, 141);
    }

    private static void endOfMain() {
        String[] programs = {"BEGIN END", "BEGIN VAR a END", "BEGIN PRINT 1 END", "BEGIN LABEL l END", "BEGIN GOTO l LABEL l END", "BEGIN IF 0 FI END",
            "BEGIN PROC f BEGIN END CALL f DONE END", "BEGIN PROC f BEGIN GOTO l END CALL f DONE LABEL l END"};
        int[] statements = {0, 0, 1, 1, 1, 1, 1, 2};
        for (int i = 0; i < programs.length; i++) {
            NonLocalJump x = Harness.compiled(programs[i]);
            Harness.due("status() before a run of " + programs[i], x.status(), RUNNING);
            Harness.due("run(256) of " + programs[i], x.run(256), DONE);
            Harness.dueState(programs[i], x, DONE, NonLocalJump.T_NONE, statements[i], 0);
        }
    }
}
