/** Several limits reached at once: the last body, its last parameter and declaration, the last name, the last activation, the last token. */
public final class LimitsThatMeetTest {
    private static final int OK = NonLocalJump.C_OK;
    private static final int LIMIT = NonLocalJump.C_LIMIT;
    private static final int NAME = NonLocalJump.C_NAME;
    private static final int L = 'l' - 'a';
    private static final int M = 'm' - 'a';
    private static final int P = 'p' - 'a';

    public static void main(String[] args) {
        for (int bodies = 14; bodies <= 17; bodies++) {
            parametersOfTheLastBody(bodies);
            declarationsOfTheLastBody(bodies);
            namesInTheLastBody(bodies);
        }
        deepestRun();
        trapInTheLastActivation();
        endsPassedAtOnce();
        asManyArgumentsAsFit();
        Harness.finish();
    }

    /** A program of so many bodies, the last one innermost, or behind the others. */
    private static String[] programs(int bodies, String params, String inside) {
        String last = "PROC p " + params + "BEGIN " + inside + "END ";
        String seven = "PROC a BEGIN " + letters("PROC", " BEGIN END ", 6) + "END ";
        int left = bodies - 9;
        return new String[] {
            "BEGIN " + Harness.repeat("PROC p BEGIN", bodies - 2) + last + Harness.repeat("END", bodies - 1),
            "BEGIN " + seven + "PROC b BEGIN " + letters("PROC", " BEGIN END ", left - 1) + "END " + last + "END"};
    }

    /** The names are taken from p downward, so that the last one is always among them. */
    private static String letters(String before, String after, int count) {
        StringBuilder text = new StringBuilder();
        for (int i = 0; i < count; i++) {
            text.append(before).append(' ').append((char) ('p' - i)).append(after);
        }
        return text.toString();
    }

    private static void parametersOfTheLastBody(int bodies) {
        for (int count = 0; count <= 16; count++) {
            int due = bodies <= 16 && count <= 4 ? OK : LIMIT;
            for (String kind : new String[] {"PVAL", "PPROC"}) {
                for (String program : programs(bodies, letters(kind, " ", count), "")) {
                    Harness.dueCompile(program, due);
                }
            }
            for (String program : programs(bodies, Harness.repeat("PVAL p", count), "")) {
                Harness.dueCompile(program, due == OK && count > 1 ? NAME : due);
            }
        }
    }

    private static void declarationsOfTheLastBody(int bodies) {
        String params = "PVAL a PPROC b PVAL c PPROC d ";
        for (int count = 0; count <= 12; count++) {
            for (String kind : new String[] {"VAR", "LABEL"}) {
                String declared = letters(kind, " ", count);
                for (String program : programs(bodies, "", declared)) {
                    Harness.dueCompile(program, bodies <= 16 && count <= 8 ? OK : LIMIT);
                }
                for (String program : programs(bodies, params, declared)) {
                    Harness.dueCompile(program, bodies <= 16 && count <= 4 ? OK : LIMIT);
                }
            }
        }
    }

    private static void namesInTheLastBody(int bodies) {
        String[] fine = {"VAR p SET p REF p ", "GOTO p LABEL p ", "CALL p ARGP p DONE "};
        String[] wrong = {"SET p 1 ", "PRINT REF p ", "GOTO p ", "VAR p GOTO p ", "LABEL p CALL p DONE ", "LABEL p LABEL p ", "CALL o DONE "};
        for (String inside : fine) {
            for (String program : programs(bodies, "", inside)) {
                Harness.dueCompile(program, bodies <= 16 ? OK : LIMIT);
            }
        }
        for (String inside : wrong) {
            for (String program : programs(bodies, "", inside)) {
                Harness.dueCompile(program, bodies <= 16 ? NAME : LIMIT);
            }
        }
    }

    /** Fifteen procedures one in the other; the innermost, with four parameters and eight declarations, calls itself once more. */
    private static String deepest(String atTheBottom) {
        String last = "PROC b PVAL m PPROC n PVAL o PPROC p BEGIN VAR c VAR d VAR e SET c ADD REF m REF o SET a ADD REF a REF c "
            + "IF LT REF m 2 CALL b ARGV ADD REF m 1 ARGP p ARGV REF c ARGP n DONE ELSE " + atTheBottom + "FI LABEL l END ";
        String start = "BEGIN VAR a " + Harness.repeat("PROC b BEGIN VAR p", 14) + last
            + "SET p 9 CALL b ARGV 1 ARGP b ARGV 30 ARGP b DONE END " + Harness.repeat("CALL b DONE END", 13)
            + "CALL b DONE PRINT 1 LABEL k PRINT REF a ";
        return start + filling(255 - Harness.tokens(start).size()) + "END";
    }

    /** So many tokens that change nothing: three for an odd count, then two at a time. */
    private static String filling(int count) {
        boolean odd = count % 2 == 1;
        return (odd ? "IF 0 FI " : "") + Harness.repeat("SET a REF a", (odd ? count - 3 : count) / 2);
    }

    private static void deepestRun() {
        NonLocalJump x = Harness.compiled(deepest("GOTO k "));
        Harness.due("tokenCount()", x.tokenCount(), 256);
        // Fourteen calls, SET p and the call of the innermost: then its two SETs, IF and CALL, and two SETs again.
        x.run(16);
        Harness.dueState("in the innermost", x, NonLocalJump.S_RUNNING, NonLocalJump.T_NONE, 16, 15);
        x.run(6);
        Harness.dueState("in its own call", x, NonLocalJump.S_RUNNING, NonLocalJump.T_NONE, 22, 16);
        int[] due = {31 + 33, 0, 33, 0, 0, 0, 0, 0, 0, 0, 0, 0, 2, 0, 31, 0};
        for (int name = 0; name < 16; name++) {
            Harness.due("in its own call: seen(" + name + ")", x.seen(name), due[name]);
        }
        Harness.due("in its own call: mainVar(0)", x.mainVar(0), 64);
        x.run(2);
        Harness.dueState("after the jump", x, NonLocalJump.S_RUNNING, NonLocalJump.T_NONE, 24, 0);
        Harness.due("run(256)", x.run(256), NonLocalJump.S_DONE);
        Harness.dueOutput("after the jump", x, 64);

        // Without the jump every call returns, and the PRINT before the label is reached too.
        Harness.duePrints(deepest("GOTO l "), 1, 64);
        Harness.duePrints(deepest(""), 1, 64);
    }

    private static void trapInTheLastActivation() {
        NonLocalJump x = Harness.compiled(deepest("CALL p ARGV 0 ARGP n ARGV 0 ARGP p DONE "));
        x.run(24);
        Harness.dueState("a call too deep", x, NonLocalJump.S_TRAP, NonLocalJump.T_DEPTH, 24, 16);
        x = Harness.compiled(deepest("CALL p ARGV 0 ARGP n ARGV 0 ARGV 0 DONE "));
        x.run(24);
        Harness.dueState("a wrong call too deep", x, NonLocalJump.S_TRAP, NonLocalJump.T_ARGS, 24, 16);
        x = Harness.compiled(deepest("SET m DIV REF o REF e "));
        x.run(24);
        Harness.dueState("a division by 0 so deep", x, NonLocalJump.S_TRAP, NonLocalJump.T_DIV, 24, 16);
        Harness.due("mainVar(0)", x.mainVar(0), 64);
        Harness.due("seen(" + M + ")", x.seen(M), 0);
        Harness.due("seen(" + L + ")", x.seen(L), 0);
        Harness.due("seen(" + P + ")", x.seen(P), 0);
    }

    /** Sixteen calls of f, each inside so many IFs: behind the last one over a thousand ends are passed, and none costs fuel. */
    private static void endsPassedAtOnce() {
        int ifs = 77;
        int statements = statementsBeforeTheLastIf(ifs);
        for (String after : new String[] {"", "SET a 5 "}) {
            NonLocalJump x = Harness.compiled(callsInsideIfs(ifs, "FI", after));
            runAll(x, statements);
            Harness.dueState("before the last IF", x, NonLocalJump.S_RUNNING, NonLocalJump.T_NONE, statements, 16);
            int status = after.isEmpty() ? NonLocalJump.S_DONE : NonLocalJump.S_RUNNING;
            Harness.due("run(1) of the last IF", x.run(1), status);
            Harness.dueState("after the last IF", x, status, NonLocalJump.T_NONE, statements + 1, 0);
            Harness.due("after the last IF: mainVar(0)", x.mainVar(0), 16);
        }
        // The end of a then-branch passes the ELSE too.
        ifs = 55;
        statements = statementsBeforeTheLastIf(ifs) + 1;
        NonLocalJump x = Harness.compiled(callsInsideIfs(ifs, "ELSE FI", "PRINT REF a "));
        runAll(x, statements);
        Harness.dueState("behind the ELSEs", x, NonLocalJump.S_RUNNING, NonLocalJump.T_NONE, statements, 0);
        Harness.due("run(1) behind the ELSEs", x.run(1), NonLocalJump.S_DONE);
        Harness.dueOutput("behind the ELSEs", x, 16);
    }

    private static String callsInsideIfs(int ifs, String close, String after) {
        return "BEGIN VAR a PROC f BEGIN SET a ADD REF a 1 " + Harness.repeat("IF 1", ifs) + "IF LT REF a 16 CALL f DONE FI "
            + Harness.repeat(close, ifs) + "END CALL f DONE " + after + "END";
    }

    /** The first CALL, fifteen times SET, the IFs and the CALL inside them, then SET and the IFs but the innermost. */
    private static int statementsBeforeTheLastIf(int ifs) {
        return 1 + 15 * (1 + ifs + 1 + 1) + 1 + ifs;
    }

    private static void runAll(NonLocalJump x, int fuel) {
        for (int left = fuel; left > 0; left -= 256) {
            x.run(left);
        }
    }

    /** All arguments are taken before they are counted, so that the very last one may still trap. */
    private static void asManyArgumentsAsFit() {
        for (int count : new int[] {3, 4, 5, 16, 124, 125, 126, 200, 245}) {
            String call = "BEGIN PROC a BEGIN END CALL a " + Harness.repeat("ARGP a", count);
            Harness.dueTrap(call + "ARGV DIV 1 0 DONE END", NonLocalJump.T_DIV, 1, 0);
            Harness.dueTrap(call + "ARGV DIV 1 1 DONE END", NonLocalJump.T_ARGS, 1, 0);
        }
        Harness.dueTrap("BEGIN PROC a BEGIN END CALL a " + Harness.repeat("ARGP a", 249) + "DONE END", NonLocalJump.T_ARGS, 1, 0);
    }
}
