/** "Expressions" and "Traps": each sentence that names an edge has a test of its own. */
public final class EdgesOfExpressionsAndTrapsTest {
    private static final int MIN = Integer.MIN_VALUE;
    private static final int MAX = Integer.MAX_VALUE;
    private static final int[] EDGES = {MIN, MIN + 1, -65536, -3, -2, -1, 0, 1, 2, 3, 46341, 65536, MAX - 1, MAX};

    // The fifth statement of the program traps, one call deep, when a is 4 and 5 is printed.
    private static final String AROUND_TRAP =
        "BEGIN VAR a PROC g PVAL c BEGIN END PROC f PVAL b BEGIN SET b 8 PRINT 5 %s PRINT 6 SET a 9 END SET a 4 CALL f ARGV 7 DONE END";
    private static final int FIRST_CALL = 4;
    private static final int FIRST_WRONG_CALL = 5;
    private static final String[] TRAPPING = {
        "SET a DIV 1 0", "SET b MOD 1 0", "PRINT DIV 1 0", "IF DIV 1 0 SET a 9 ELSE SET a 9 FI", "CALL g ARGV DIV 1 0 DONE", "CALL g DONE",
        "CALL g ARGP g DONE", "CALL g ARGV 1 ARGV 2 DONE"};

    public static void main(String[] args) {
        expressions();
        traps();
        Harness.finish();
    }

    private static void expressions() {
        Harness.sentence("Evaluated in C, left operand before right.", EdgesOfExpressionsAndTrapsTest::leftAndRight);
        Harness.sentence("NUM v is v.", EdgesOfExpressionsAndTrapsTest::numbers);
        Harness.sentence("REF n is variable n of the activation found for n from C.", EdgesOfExpressionsAndTrapsTest::references);
        Harness.sentence("ADD .. wrap as Java int arithmetic.", EdgesOfExpressionsAndTrapsTest::sums);
        Harness.sentence("SUB .. wrap as Java int arithmetic.", EdgesOfExpressionsAndTrapsTest::differences);
        Harness.sentence("MUL wrap as Java int arithmetic.", EdgesOfExpressionsAndTrapsTest::products);
        Harness.sentence("DIV .. trap T_DIV if the right value is 0", EdgesOfExpressionsAndTrapsTest::divByZero);
        Harness.sentence("MOD trap T_DIV if the right value is 0", EdgesOfExpressionsAndTrapsTest::modByZero);
        Harness.sentence("else are Java int / and % (truncating; ..", EdgesOfExpressionsAndTrapsTest::truncating);
        Harness.sentence("Integer.MIN_VALUE DIV -1 is Integer.MIN_VALUE", EdgesOfExpressionsAndTrapsTest::leastDivMinusOne);
        Harness.sentence("MOD -1 is 0", EdgesOfExpressionsAndTrapsTest::leastModMinusOne);
        Harness.sentence("LT is 1 if left < right (signed), else 0.", EdgesOfExpressionsAndTrapsTest::less);
        Harness.sentence("EQ is 1 if equal, else 0.", EdgesOfExpressionsAndTrapsTest::equal);
    }

    private static void traps() {
        Harness.sentence("A TRAP ends the run for good: status S_TRAP, trap() the code.", EdgesOfExpressionsAndTrapsTest::endsForGood);
        Harness.sentence("The trapping statement was counted in executed()", EdgesOfExpressionsAndTrapsTest::isCounted);
        Harness.sentence("but stored .. nothing", EdgesOfExpressionsAndTrapsTest::storedNothing);
        Harness.sentence("but .. appended .. nothing", EdgesOfExpressionsAndTrapsTest::appendedNothing);
        Harness.sentence("but .. bound nothing", EdgesOfExpressionsAndTrapsTest::boundNothing);
        Harness.sentence("the live activations stay as they were at the trap.", EdgesOfExpressionsAndTrapsTest::activationsStay);
        Harness.sentence("A trap inside an expression stops evaluation there.", EdgesOfExpressionsAndTrapsTest::evaluationStops);
    }

    private static int value(String expression) {
        NonLocalJump x = Harness.compiled("BEGIN PRINT " + expression + " END");
        Harness.due("run(1) of PRINT " + expression, x.run(1), NonLocalJump.S_DONE);
        Harness.due("outputCount() of PRINT " + expression, x.outputCount(), 1);
        return x.output(0);
    }

    private static void dueValue(String expression, int want) {
        Harness.due(expression, value(expression), want);
    }

    private static void leftAndRight() {
        dueValue("SUB 10 3", 7);
        dueValue("DIV 20 6", 3);
        dueValue("MOD 20 6", 2);
        dueValue("LT 3 4", 1);
        dueValue("SUB SUB 100 30 SUB 20 5", 55);
        dueValue("SUB 100 SUB 30 SUB 20 5", 85);
        dueValue("SUB SUB SUB 100 30 20 5", 45);
        dueValue("DIV DIV 100 5 DIV 9 3", 6);
        dueValue(Harness.repeat("SUB", 126) + Harness.repeat("1", 127), -125);
        dueValue(Harness.repeat("SUB 1", 125) + "1", 0);
        dueValue(Harness.repeat("SUB 1", 126) + "1", 1);
        // In C: the parameter of the newest activation, not that of its caller.
        Harness.duePrints("BEGIN PROC f PVAL a BEGIN PRINT SUB REF a 1 IF REF a CALL f ARGV SUB REF a REF a DONE FI END CALL f ARGV 9 DONE END", 8, -1);
    }

    private static void numbers() {
        for (int edge : EDGES) {
            dueValue("NUM " + edge, edge);
        }
    }

    private static void references() {
        for (int edge : EDGES) {
            Harness.duePrints("BEGIN VAR a PROC f PVAL b BEGIN PRINT REF b PRINT REF a END SET a " + edge + " PRINT REF a CALL f ARGV REF a DONE END",
                edge, edge, edge);
        }
        Harness.duePrints("BEGIN VAR a PROC f PVAL b BEGIN VAR c PRINT REF c PRINT REF b PRINT REF a END CALL f ARGV 1 DONE END", 0, 1, 0);
    }

    private static void sums() {
        dueValue("ADD " + MAX + " 1", MIN);
        dueValue("ADD " + MIN + " -1", MAX);
        dueValue("ADD " + MAX + " " + MAX, -2);
        dueValue("ADD " + MIN + " " + MIN, 0);
        dueValue("ADD " + MIN + " " + MAX, -1);
        for (int left : EDGES) {
            for (int right : EDGES) {
                dueValue("ADD " + left + " " + right, left + right);
            }
        }
        // Each step wraps, not the result alone.
        dueValue("LT ADD " + MAX + " 1 0", 1);
        dueValue("DIV ADD " + MAX + " 1 2", -1073741824);
        Harness.duePrints("BEGIN VAR a SET a " + MAX + " SET a ADD REF a 1 PRINT REF a END", MIN);
    }

    private static void differences() {
        dueValue("SUB " + MIN + " 1", MAX);
        dueValue("SUB " + MAX + " -1", MIN);
        dueValue("SUB 0 " + MIN, MIN);
        dueValue("SUB -1 " + MIN, MAX);
        dueValue("SUB " + MIN + " " + MAX, 1);
        dueValue("SUB " + MAX + " " + MIN, -1);
        for (int left : EDGES) {
            for (int right : EDGES) {
                dueValue("SUB " + left + " " + right, left - right);
            }
        }
        dueValue("DIV SUB " + MIN + " 1 2", 1073741823);
        Harness.duePrints("BEGIN VAR a SET a " + MIN + " SET a SUB REF a 1 PRINT REF a END", MAX);
    }

    private static void products() {
        dueValue("MUL 65536 65536", 0);
        dueValue("MUL 65536 32768", MIN);
        dueValue("MUL 46341 46341", -2147479015);
        dueValue("MUL " + MIN + " -1", MIN);
        dueValue("MUL " + MIN + " " + MIN, 0);
        dueValue("MUL " + MAX + " " + MAX, 1);
        dueValue("MUL " + MAX + " 2", -2);
        dueValue("MUL " + MIN + " " + MAX, MIN);
        for (int left : EDGES) {
            for (int right : EDGES) {
                dueValue("MUL " + left + " " + right, left * right);
            }
        }
        dueValue("DIV MUL 65536 32768 2", -1073741824);
    }

    private static void dueDivTrap(String expression) {
        Harness.dueTrap("BEGIN PRINT " + expression + " END", NonLocalJump.T_DIV, 1, 0);
    }

    private static void divByZero() {
        for (int left : EDGES) {
            dueDivTrap("DIV " + left + " 0");
        }
        dueDivTrap("DIV 1 SUB 2 2");
        dueDivTrap("DIV 1 MUL 65536 65536");
        dueDivTrap("DIV 1 ADD " + MIN + " " + MIN);
        dueDivTrap("DIV 0 DIV 0 0");
        dueDivTrap("MUL 0 DIV 1 0");
        // 0 on the left is no trap.
        dueValue("DIV 0 1", 0);
        dueValue("DIV 0 " + MIN, 0);
    }

    private static void modByZero() {
        for (int left : EDGES) {
            dueDivTrap("MOD " + left + " 0");
        }
        dueDivTrap("MOD 1 SUB 2 2");
        dueDivTrap("MOD 1 MUL 65536 65536");
        dueDivTrap("MOD 0 MOD 0 0");
        dueDivTrap("EQ 0 MOD 1 0");
        dueValue("MOD 0 1", 0);
        dueValue("MOD 0 " + MIN, 0);
    }

    private static void truncating() {
        dueValue("DIV 7 2", 3);
        dueValue("DIV -7 2", -3);
        dueValue("DIV 7 -2", -3);
        dueValue("DIV -7 -2", 3);
        dueValue("DIV 1 2", 0);
        dueValue("DIV -1 2", 0);
        dueValue("MOD 7 2", 1);
        dueValue("MOD -7 2", -1);
        dueValue("MOD 7 -2", 1);
        dueValue("MOD -7 -2", -1);
        dueValue("MOD " + MIN + " " + MAX, -1);
        dueValue("DIV " + MIN + " " + MAX, -1);
        dueValue("DIV " + MAX + " " + MIN, 0);
        dueValue("MOD " + MAX + " " + MIN, MAX);
        for (int left : EDGES) {
            for (int right : EDGES) {
                if (right != 0) {
                    dueValue("DIV " + left + " " + right, left / right);
                    dueValue("MOD " + left + " " + right, left % right);
                }
            }
        }
    }

    private static void leastDivMinusOne() {
        dueValue("DIV " + MIN + " -1", MIN);
        dueValue("DIV " + (MIN + 1) + " -1", MAX);
        dueValue("DIV ADD " + MAX + " 1 SUB 0 1", MIN);
    }

    private static void leastModMinusOne() {
        dueValue("MOD " + MIN + " -1", 0);
        dueValue("MOD " + (MIN + 1) + " -1", 0);
        dueValue("MOD ADD " + MAX + " 1 SUB 0 1", 0);
    }

    private static void less() {
        dueValue("LT " + MIN + " " + MAX, 1);
        dueValue("LT " + MAX + " " + MIN, 0);
        dueValue("LT -1 0", 1);
        dueValue("LT 0 -1", 0);
        dueValue("LT 0 0", 0);
        dueValue("LT " + MIN + " " + MIN, 0);
        dueValue("LT " + MIN + " " + (MIN + 1), 1);
        for (int left : EDGES) {
            for (int right : EDGES) {
                dueValue("LT " + left + " " + right, left < right ? 1 : 0);
            }
        }
    }

    private static void equal() {
        for (int left : EDGES) {
            for (int right : EDGES) {
                dueValue("EQ " + left + " " + right, left == right ? 1 : 0);
            }
        }
        dueValue("EQ 128 128", 1);
        dueValue("EQ 1000 1000", 1);
        dueValue("EQ 65536 0", 0);
    }

    /** The program around the trapping statement of that index, run until it traps. */
    private static NonLocalJump trapped(int index) {
        NonLocalJump x = Harness.compiled(String.format(AROUND_TRAP, TRAPPING[index]));
        Harness.due(TRAPPING[index] + ": run(256)", x.run(256), NonLocalJump.S_TRAP);
        return x;
    }

    private static void endsForGood() {
        for (int i = 0; i < TRAPPING.length; i++) {
            NonLocalJump x = trapped(i);
            NonLocalJump y = trapped(i);
            int code = i < FIRST_WRONG_CALL ? NonLocalJump.T_DIV : NonLocalJump.T_ARGS;
            for (int again = 0; again < 3; again++) {
                Harness.due(TRAPPING[i] + ": run(256) again", x.run(256), NonLocalJump.S_TRAP);
                Harness.due(TRAPPING[i] + ": compile()", x.compile(), NonLocalJump.C_REFUSED);
                Harness.due(TRAPPING[i] + ": token(2, 0)", x.token(2, 0), false);
                Harness.due(TRAPPING[i] + ": trap()", x.trap(), code);
            }
            Harness.dueSame(TRAPPING[i], x, y);
        }
        NonLocalJump deep = Harness.compiled("BEGIN PROC f BEGIN CALL f DONE END CALL f DONE PRINT 1 END");
        NonLocalJump full = Harness.compiled("BEGIN LABEL l PRINT 1 GOTO l END");
        for (int again = 0; again < 3; again++) {
            Harness.due("run(256)", deep.run(256), NonLocalJump.S_TRAP);
            Harness.dueState("too deep", deep, NonLocalJump.S_TRAP, NonLocalJump.T_DEPTH, 17, 16);
            Harness.due("run(256)", full.run(256), NonLocalJump.S_TRAP);
            Harness.dueState("too much output", full, NonLocalJump.S_TRAP, NonLocalJump.T_OUTPUT, 66, 0);
        }
    }

    private static void isCounted() {
        for (int i = 0; i < TRAPPING.length; i++) {
            Harness.due(TRAPPING[i] + ": executed()", trapped(i).executed(), 5);
        }
        for (int limit = 1; limit <= 16; limit++) {
            NonLocalJump x = Harness.compiled(limit, "BEGIN PROC f BEGIN CALL f DONE END CALL f DONE END");
            x.run(256);
            Harness.due("limit " + limit + ": executed()", x.executed(), limit + 1);
        }
        NonLocalJump full = Harness.compiled("BEGIN " + Harness.repeat("PRINT 1", 34) + "END");
        full.run(256);
        Harness.due("PRINT into a full output: executed()", full.executed(), 33);
        Harness.dueTrap("BEGIN PRINT DIV 1 0 END", NonLocalJump.T_DIV, 1, 0);
    }

    private static void storedNothing() {
        for (int i = 0; i < TRAPPING.length; i++) {
            Harness.due(TRAPPING[i] + ": mainVar(0)", trapped(i).mainVar(0), 4);
        }
        NonLocalJump x = Harness.compiled("BEGIN VAR a SET a 5 SET a ADD 1 DIV 6 SUB REF a 5 END");
        x.run(256);
        Harness.due("SET with a trap deep in its expression: mainVar(0)", x.mainVar(0), 5);
        NonLocalJump y = Harness.compiled("BEGIN VAR a SET a 5 SET a SUB MOD 6 0 1 END");
        y.run(256);
        Harness.due("SET with a trap on the left: mainVar(0)", y.mainVar(0), 5);
    }

    private static void appendedNothing() {
        for (int i = 0; i < TRAPPING.length; i++) {
            Harness.dueOutput(TRAPPING[i], trapped(i), 5);
        }
        StringBuilder text = new StringBuilder("BEGIN ");
        int[] due = new int[32];
        for (int i = 0; i < 32; i++) {
            text.append("PRINT ").append(i + 1).append(' ');
            due[i] = i + 1;
        }
        NonLocalJump x = Harness.compiled(text + "PRINT 77 END");
        x.run(256);
        Harness.due("PRINT into a full output: trap()", x.trap(), NonLocalJump.T_OUTPUT);
        Harness.dueOutput("PRINT into a full output", x, due);
        NonLocalJump y = Harness.compiled("BEGIN PRINT 3 PRINT ADD 4 DIV 1 0 END");
        y.run(256);
        Harness.dueOutput("PRINT that traps", y, 3);
        Harness.due("PRINT that traps: output(1)", y.output(1), 0);
    }

    private static void boundNothing() {
        // A call that traps makes no activation: f is the newest one still.
        for (int i = FIRST_CALL; i < TRAPPING.length; i++) {
            Harness.due(TRAPPING[i] + ": depth()", trapped(i).depth(), 1);
        }
        for (String call : new String[] {"CALL f ARGV 9 ARGV DIV 1 0 DONE", "CALL f ARGV 9 DONE", "CALL f ARGV 9 ARGP f DONE", "CALL f ARGV 9 ARGV 9 ARGV 9 DONE"}) {
            NonLocalJump x = Harness.compiled("BEGIN VAR a PROC f PVAL a PVAL b BEGIN PRINT REF a END SET a 3 " + call + " END");
            Harness.due(call + ": run(256)", x.run(256), NonLocalJump.S_TRAP);
            Harness.dueState(call, x, NonLocalJump.S_TRAP, x.trap(), 2, 0);
            Harness.due(call + ": mainVar(0)", x.mainVar(0), 3);
            Harness.due(call + ": outputCount()", x.outputCount(), 0);
        }
        NonLocalJump y = Harness.compiled(1, "BEGIN VAR a PROC f PVAL a BEGIN CALL f ARGV 9 DONE END SET a 3 CALL f ARGV 1 DONE END");
        y.run(256);
        Harness.dueState("a call that is too deep", y, NonLocalJump.S_TRAP, NonLocalJump.T_DEPTH, 3, 1);
        Harness.due("a call that is too deep: mainVar(0)", y.mainVar(0), 3);
    }

    private static void activationsStay() {
        String deep = "BEGIN PROC g PVAL a BEGIN END PROC f PVAL n BEGIN IF REF n CALL f ARGV SUB REF n 1 DONE ELSE %s FI END CALL f ARGV %d DONE END";
        String[] last = {"PRINT DIV 1 0", "CALL g DONE", "CALL g ARGP g DONE", "CALL g ARGV DIV 1 0 DONE", "IF MOD 1 0 FI"};
        for (String statement : last) {
            for (int levels = 1; levels <= 16; levels++) {
                NonLocalJump x = Harness.compiled(String.format(deep, statement, levels - 1));
                Harness.due(statement + ": run(256)", x.run(256), NonLocalJump.S_TRAP);
                Harness.due(statement + " at depth " + levels + ": depth()", x.depth(), levels);
                x.run(256);
                Harness.due(statement + " at depth " + levels + ", run again: depth()", x.depth(), levels);
            }
        }
        NonLocalJump full = Harness.compiled("BEGIN PROC f PVAL n BEGIN LABEL l IF REF n CALL f ARGV SUB REF n 1 DONE FI PRINT 1 GOTO l END CALL f ARGV 15 DONE END");
        full.run(256);
        Harness.due("full output at depth 16: trap()", full.trap(), NonLocalJump.T_OUTPUT);
        Harness.due("full output at depth 16: depth()", full.depth(), 16);
        NonLocalJump tooDeep = Harness.compiled(16, String.format(deep, "CALL g ARGV 1 DONE", 15));
        tooDeep.run(256);
        Harness.dueState("too deep", tooDeep, NonLocalJump.S_TRAP, NonLocalJump.T_DEPTH, 33, 16);
    }

    private static void evaluationStops() {
        // What would come after the division, be it another trap, does not come.
        Harness.dueTrap("BEGIN PROC f BEGIN END CALL f ARGV ADD DIV 1 0 2 ARGV 3 DONE END", NonLocalJump.T_DIV, 1, 0);
        Harness.dueTrap("BEGIN PROC f BEGIN END CALL f ARGV DIV 1 0 ARGV 3 DONE END", NonLocalJump.T_DIV, 1, 0);
        Harness.dueTrap("BEGIN PROC f PVAL a PVAL b BEGIN END CALL f ARGV DIV 1 0 ARGV 3 DONE END", NonLocalJump.T_DIV, 1, 0);
        Harness.dueTrap("BEGIN PROC f PVAL a PVAL b BEGIN END CALL f ARGV DIV 1 0 ARGP f DONE END", NonLocalJump.T_DIV, 1, 0);
        Harness.dueTrap("BEGIN " + Harness.repeat("PRINT 1", 32) + "PRINT ADD 1 DIV 1 0 END", NonLocalJump.T_DIV, 33, 0);
        Harness.dueTrap("BEGIN PRINT DIV MOD 5 0 DIV 5 0 END", NonLocalJump.T_DIV, 1, 0);
        Harness.dueTrap("BEGIN PRINT EQ DIV 1 0 DIV 1 0 PRINT 2 END", NonLocalJump.T_DIV, 1, 0);
        Harness.dueTrap("BEGIN PRINT " + Harness.repeat("ADD", 120) + "DIV 1 0 " + Harness.repeat("1", 120) + "END", NonLocalJump.T_DIV, 1, 0);
        Harness.dueTrap("BEGIN PRINT " + Harness.repeat("ADD 1", 120) + "DIV 1 0 END", NonLocalJump.T_DIV, 1, 0);
        NonLocalJump x = Harness.compiled(1, "BEGIN PROC f BEGIN CALL f ARGV DIV 1 0 DONE END CALL f DONE END");
        x.run(256);
        Harness.dueState("a division by 0 in a call that is too deep", x, NonLocalJump.S_TRAP, NonLocalJump.T_DIV, 2, 1);
        // After a reset nothing is left of the half done expression.
        x.reset();
        Harness.feed(x, "BEGIN PRINT SUB 5 SUB 3 1 PRINT 4 END");
        Harness.due("after the reset: compile()", x.compile(), NonLocalJump.C_OK);
        Harness.due("after the reset: run(2)", x.run(2), NonLocalJump.S_DONE);
        Harness.dueOutput("after the reset", x, 3, 4);
    }
}
