import java.util.List;

/** Promise 3: what compile answers, in which order, and what it changes. */
public final class Promise03CompileTest {
    private static final int OK = NonLocalJump.C_OK;
    private static final int SYNTAX = NonLocalJump.C_SYNTAX;
    private static final int LIMIT = NonLocalJump.C_LIMIT;
    private static final int NAME = NonLocalJump.C_NAME;

    private static final String EVERY_FORM =
        "BEGIN VAR a PROC f PVAL b PPROC g BEGIN VAR c PROC h BEGIN END SET c REF b LABEL k GOTO k END VAR d "
        + "LABEL l SET a ADD SUB 1 2 MUL REF d DIV 3 MOD 4 5 PRINT LT 1 EQ 2 3 GOTO l "
        + "IF 1 FI IF 1 ELSE FI IF 0 SET a 1 PRINT 2 ELSE GOTO l IF 1 FI CALL f DONE FI "
        + "CALL f ARGV 1 ARGP f DONE CALL f DONE LABEL m LABEL n END";

    public static void main(String[] args) {
        accepted();
        syntax();
        everyPrefixAndTail();
        bodyLimit();
        declarationLimit();
        parameterLimit();
        declaredTwice();
        usesOutOfReach();
        wrongCategory();
        order();
        failedCompileChangesNothing();
        okStartsTheRun();
        refusedOutsideEdit();
        Harness.finish();
    }

    private static void accepted() {
        Harness.dueCompile("BEGIN END", OK);
        Harness.dueCompile(EVERY_FORM, OK);
        Harness.dueCompile("BEGIN " + Harness.repeat("IF 1", 84) + Harness.repeat("FI", 84) + "END", OK);
        Harness.dueCompile("BEGIN PRINT " + Harness.repeat("ADD", 126) + Harness.repeat("1", 127) + "END", OK);
        Harness.dueCompile("BEGIN PROC a BEGIN END CALL a " + Harness.repeat("ARGP a", 240) + "DONE END", OK);
    }

    private static void syntax() {
        String[] wrong = {
            "", "END", "BEGIN", "NUM 1", "BEGIN END END", "BEGIN END BEGIN END", "BEGIN END VAR a", "BEGIN BEGIN END END",
            "VAR a BEGIN END", "BEGIN PVAL a END", "BEGIN PPROC a END", "PVAL a BEGIN END",
            "BEGIN SET a END", "BEGIN VAR a SET a 1 2 END", "BEGIN PRINT END", "BEGIN PRINT PRINT 1 END", "BEGIN 1 END",
            "BEGIN PRINT ADD 1 END", "BEGIN PRINT ADD END", "BEGIN ADD 1 2 END", "BEGIN PRINT ADD 1 2 3 END",
            "BEGIN PRINT 1 VAR a END", "BEGIN LABEL a VAR b END", "BEGIN LABEL a PROC b BEGIN END END",
            "BEGIN PROC a END", "BEGIN PROC a BEGIN END", "BEGIN PROC a VAR b BEGIN END END", "BEGIN PROC a BEGIN PVAL b END END",
            "BEGIN PROC a BEGIN END BEGIN END END", "BEGIN PROC a SET b 1 BEGIN END END",
            "BEGIN IF FI END", "BEGIN IF 1 END", "BEGIN IF 1 END FI", "BEGIN FI END", "BEGIN ELSE END", "BEGIN IF 1 2 FI END",
            "BEGIN IF 1 ELSE ELSE FI END", "BEGIN IF 1 FI FI END", "BEGIN IF 1 FI ELSE FI END", "BEGIN IF 1 ELSE END",
            "BEGIN IF 1 LABEL a FI END", "BEGIN IF 1 ELSE LABEL a FI END", "BEGIN IF 1 IF 1 FI LABEL a FI END",
            "BEGIN IF 1 VAR a FI END", "BEGIN IF 1 PROC a BEGIN END FI END",
            "BEGIN PROC a BEGIN END CALL a END", "BEGIN PROC a BEGIN END CALL a ARGV DONE END", "BEGIN DONE END",
            "BEGIN PROC a BEGIN END CALL a 1 DONE END", "BEGIN PROC a BEGIN END CALL a REF a DONE END", "BEGIN ARGV 1 END",
            "BEGIN PROC a BEGIN END CALL a ARGV 1 2 DONE END", "BEGIN PROC a BEGIN END ARGP a END",
            "BEGIN PROC a BEGIN END CALL a ARGP a 1 DONE END", "BEGIN PROC a BEGIN END CALL a CALL a DONE DONE END",
            "BEGIN PROC a BEGIN END CALL a DONE DONE END", "BEGIN PRINT 1 FI END", "BEGIN PRINT ARGV 1 END"};
        for (String program : wrong) {
            Harness.dueCompile(program, SYNTAX);
        }
        Harness.dueCompile(Harness.repeat("BEGIN PROC a", 128), SYNTAX);
        Harness.dueCompile("BEGIN " + Harness.repeat("IF", 255), SYNTAX);
        Harness.dueCompile("BEGIN " + Harness.repeat("IF 1", 127), SYNTAX);
        Harness.dueCompile("BEGIN PRINT " + Harness.repeat("ADD", 254), SYNTAX);
        Harness.dueCompile(Harness.repeat("END", 256), SYNTAX);
    }

    private static void everyPrefixAndTail() {
        List<int[]> whole = Harness.tokens(EVERY_FORM);
        for (int length = 0; length < whole.size(); length++) {
            NonLocalJump x = Harness.feed(new NonLocalJump(16), whole.subList(0, length));
            Harness.due("compile() of the first " + length + " tokens", x.compile(), SYNTAX);
        }
        for (int kind = 1; kind <= 26; kind++) {
            NonLocalJump x = Harness.feed(new NonLocalJump(16), whole);
            x.token(kind, 0);
            Harness.due("compile() with a token of kind " + kind + " after the last END", x.compile(), SYNTAX);
        }
    }

    private static void bodyLimit() {
        Harness.dueCompile("BEGIN " + nested(15) + "END", OK);
        Harness.dueCompile("BEGIN " + nested(16) + "END", LIMIT);
        Harness.dueCompile("BEGIN " + nested(80) + "END", LIMIT);
        Harness.dueCompile("BEGIN PROC a BEGIN " + siblings(8) + "END PROC b BEGIN " + siblings(5) + "END END", OK);
        Harness.dueCompile("BEGIN PROC a BEGIN " + siblings(8) + "END PROC b BEGIN " + siblings(6) + "END END", LIMIT);
    }

    private static String nested(int depth) {
        return Harness.repeat("PROC a BEGIN", depth) + Harness.repeat("END", depth);
    }

    private static String siblings(int count) {
        StringBuilder text = new StringBuilder();
        for (int i = 0; i < count; i++) {
            text.append("PROC ").append((char) ('a' + i)).append(" BEGIN END ");
        }
        return text.toString();
    }

    private static void declarationLimit() {
        String seven = "VAR a VAR b VAR c VAR d VAR e VAR f VAR g ";
        Harness.dueCompile("BEGIN " + seven + "VAR h END", OK);
        Harness.dueCompile("BEGIN " + seven + "VAR h VAR i END", LIMIT);
        Harness.dueCompile("BEGIN " + seven + "LABEL h END", OK);
        Harness.dueCompile("BEGIN " + seven + "LABEL h LABEL i END", LIMIT);
        Harness.dueCompile("BEGIN " + seven + "PROC h BEGIN END END", OK);
        Harness.dueCompile("BEGIN " + seven + "PROC h BEGIN END LABEL i END", LIMIT);
        Harness.dueCompile("BEGIN " + seven + "VAR h PROC i BEGIN END END", LIMIT);
        Harness.dueCompile("BEGIN " + siblings(8) + "END", OK);
        Harness.dueCompile("BEGIN " + siblings(9) + "END", LIMIT);
        Harness.dueCompile("BEGIN PROC a PVAL a PPROC b BEGIN VAR c VAR d VAR e VAR f VAR g LABEL h END END", OK);
        Harness.dueCompile("BEGIN PROC a PVAL a PPROC b BEGIN VAR c VAR d VAR e VAR f VAR g LABEL h LABEL i END END", LIMIT);
        Harness.dueCompile("BEGIN " + seven + "PROC h PVAL h BEGIN " + seven + "END END", OK);
        Harness.dueCompile("BEGIN " + Harness.repeat("VAR a", 9) + "END", LIMIT);
        Harness.dueCompile("BEGIN " + Harness.repeat("LABEL a", 254) + "END", LIMIT);
    }

    private static void parameterLimit() {
        Harness.dueCompile("BEGIN PROC a PVAL a PPROC b PVAL c PPROC d BEGIN END END", OK);
        Harness.dueCompile("BEGIN PROC a PVAL a PPROC b PVAL c PPROC d PVAL e BEGIN END END", LIMIT);
        Harness.dueCompile("BEGIN PROC a PVAL a PVAL b PVAL c PVAL d PVAL e PVAL f PVAL g PVAL h BEGIN END END", LIMIT);
        Harness.dueCompile("BEGIN PROC a " + Harness.repeat("PVAL a", 5) + "BEGIN END END", LIMIT);
        Harness.dueCompile("BEGIN PROC a " + Harness.repeat("PPROC a", 200) + "BEGIN END END", LIMIT);
    }

    private static void declaredTwice() {
        String[] twice = {
            "BEGIN VAR a VAR a END", "BEGIN VAR a PROC a BEGIN END END", "BEGIN PROC a BEGIN END VAR a END",
            "BEGIN VAR a LABEL a END", "BEGIN LABEL a LABEL a END", "BEGIN PROC a BEGIN END LABEL a END",
            "BEGIN PROC a BEGIN END PROC a BEGIN END END", "BEGIN PROC a PVAL b PVAL b BEGIN END END",
            "BEGIN PROC a PVAL b PPROC b BEGIN END END", "BEGIN PROC a PVAL b BEGIN VAR b END END",
            "BEGIN PROC a PPROC b BEGIN LABEL b END END", "BEGIN PROC a PPROC b BEGIN PROC b BEGIN END END END",
            "BEGIN " + Harness.repeat("VAR a", 8) + "END", "BEGIN PROC a " + Harness.repeat("PVAL a", 4) + "BEGIN END END"};
        for (String program : twice) {
            Harness.dueCompile(program, NAME);
        }
        Harness.dueCompile("BEGIN VAR b PROC a PVAL a BEGIN VAR b PROC c BEGIN LABEL b VAR a END END LABEL c END", SYNTAX);
        Harness.dueCompile("BEGIN VAR b PROC a PVAL a BEGIN VAR b PROC c BEGIN VAR a LABEL b END END LABEL c END", OK);
    }

    private static void usesOutOfReach() {
        String[] unknown = {
            "BEGIN SET a 1 END", "BEGIN PRINT REF a END", "BEGIN GOTO a END", "BEGIN CALL a DONE END",
            "BEGIN PROC b BEGIN END CALL b ARGP a DONE END", "BEGIN PROC b BEGIN END CALL b ARGV REF a DONE END",
            "BEGIN IF REF p FI END", "BEGIN IF 0 IF 0 ELSE GOTO a FI FI END", "BEGIN PRINT ADD 1 MUL 2 REF a END",
            "BEGIN PROC b BEGIN VAR a END SET a 1 END", "BEGIN PROC b PVAL a BEGIN END PRINT REF a END",
            "BEGIN PROC b BEGIN LABEL a END GOTO a END", "BEGIN PROC b BEGIN PROC a BEGIN END END CALL a DONE END",
            "BEGIN PROC b BEGIN VAR a END PROC c BEGIN PRINT REF a END END",
            "BEGIN PROC b BEGIN LABEL a END PROC c BEGIN GOTO a END END"};
        for (String program : unknown) {
            Harness.dueCompile(program, NAME);
        }
        Harness.dueCompile("BEGIN PROC b BEGIN PROC c BEGIN SET a 1 GOTO l CALL d DONE END END VAR a "
            + "PROC d BEGIN CALL b DONE END GOTO l LABEL l END", OK);
    }

    private static void wrongCategory() {
        String declared = "BEGIN VAR a PROC b BEGIN END PROC c PVAL d PPROC e BEGIN ";
        String[] variables = {"a", "d"};
        String[] procedures = {"b", "c", "e"};
        String[] labels = {"l", "m"};
        for (String name : variables) {
            dueUses(declared, name, OK, NAME, NAME);
        }
        for (String name : procedures) {
            dueUses(declared, name, NAME, OK, NAME);
        }
        for (String name : labels) {
            dueUses(declared, name, NAME, NAME, OK);
        }
        Harness.dueCompile("BEGIN VAR a PROC b BEGIN SET a 1 LABEL a END END", NAME);
        Harness.dueCompile("BEGIN VAR a PROC b BEGIN PROC c BEGIN SET a 1 END LABEL a END END", NAME);
        Harness.dueCompile("BEGIN PROC b PVAL a BEGIN GOTO a END LABEL a END", NAME);
        Harness.dueCompile("BEGIN PROC b PVAL b BEGIN CALL b DONE END END", NAME);
        Harness.dueCompile("BEGIN VAR a PROC b PPROC a BEGIN CALL a DONE END SET a 1 END", OK);
        Harness.dueCompile("BEGIN LABEL a PRINT 1 GOTO a END", OK);
    }

    private static void dueUses(String declared, String name, int variable, int procedure, int label) {
        String tail = " LABEL l END LABEL m END";
        Harness.dueCompile(declared + "SET " + name + " 1" + tail, variable);
        Harness.dueCompile(declared + "PRINT REF " + name + tail, variable);
        Harness.dueCompile(declared + "CALL " + name + " DONE" + tail, procedure);
        Harness.dueCompile(declared + "CALL c ARGV 1 ARGP " + name + " DONE" + tail, procedure);
        Harness.dueCompile(declared + "GOTO " + name + tail, label);
    }

    private static void order() {
        Harness.dueCompile("BEGIN " + Harness.repeat("VAR a", 9) + "SET b 1", SYNTAX);
        Harness.dueCompile("BEGIN " + nested(16), SYNTAX);
        Harness.dueCompile("BEGIN SET b 1 FI END", SYNTAX);
        Harness.dueCompile("BEGIN VAR a VAR a SET b 1 " + Harness.repeat("LABEL c", 7) + "END", LIMIT);
        Harness.dueCompile("BEGIN VAR a VAR a " + nested(16) + "GOTO c END", LIMIT);
        Harness.dueCompile("BEGIN VAR a VAR a PROC b PVAL c PVAL d PVAL e PVAL f PVAL g BEGIN END END", LIMIT);
    }

    private static void failedCompileChangesNothing() {
        NonLocalJump x = Harness.feed(new NonLocalJump(16), "BEGIN VAR a GOTO l PRINT 1");
        Harness.due("compile() of an open program", x.compile(), SYNTAX);
        Harness.due("compile() of it again", x.compile(), SYNTAX);
        Harness.due("tokenCount() after it", x.tokenCount(), 5);
        Harness.dueState("after it", x, NonLocalJump.S_EDIT, NonLocalJump.T_NONE, 0, 0);
        Harness.due("run(3) after it", x.run(3), NonLocalJump.S_EDIT);
        Harness.feed(x, "LABEL l PRINT 2 END");
        Harness.due("compile() of the closed program", x.compile(), OK);
        Harness.due("run(9) of the closed program", x.run(9), NonLocalJump.S_DONE);
        Harness.dueOutput("the closed program", x, 2);
        for (String program : new String[] {"BEGIN VAR a VAR a END", "BEGIN " + nested(16) + "END", "BEGIN GOTO a END"}) {
            NonLocalJump y = Harness.feed(new NonLocalJump(16), program);
            int answer = y.compile();
            Harness.due("compile() again of " + program, y.compile(), answer);
            Harness.dueState("after failed compile of " + program, y, NonLocalJump.S_EDIT, NonLocalJump.T_NONE, 0, 0);
            Harness.due("mainVar(0) after failed compile of " + program, y.mainVar(0), 0);
            Harness.due("seen(0) after failed compile of " + program, y.seen(0), 0);
            y.reset();
            Harness.feed(y, "BEGIN LABEL a PRINT 3 END");
            Harness.due("compile() after a failed one and reset", y.compile(), OK);
            y.run(2);
            Harness.dueOutput("after a failed compile and reset", y, 3);
        }
    }

    private static void okStartsTheRun() {
        NonLocalJump x = Harness.compiled("BEGIN VAR a VAR b SET a 1 END");
        Harness.dueState("after C_OK", x, NonLocalJump.S_RUNNING, NonLocalJump.T_NONE, 0, 0);
        Harness.dueOutput("after C_OK", x);
        Harness.due("after C_OK: mainVar(0)", x.mainVar(0), 0);
        NonLocalJump empty = Harness.compiled("BEGIN VAR a PROC f BEGIN PRINT 1 END END");
        Harness.dueState("an empty main body", empty, NonLocalJump.S_RUNNING, NonLocalJump.T_NONE, 0, 0);
        Harness.due("an empty main body: run(1)", empty.run(1), NonLocalJump.S_DONE);
        Harness.dueState("an empty main body at its end", empty, NonLocalJump.S_DONE, NonLocalJump.T_NONE, 0, 0);
    }

    private static void refusedOutsideEdit() {
        NonLocalJump x = Harness.compiled("BEGIN VAR a SET a 6 PRINT REF a END");
        Harness.due("compile() when running", x.compile(), NonLocalJump.C_REFUSED);
        x.run(1);
        Harness.due("compile() in the middle", x.compile(), NonLocalJump.C_REFUSED);
        Harness.dueState("after a refused compile", x, NonLocalJump.S_RUNNING, NonLocalJump.T_NONE, 1, 0);
        Harness.due("after a refused compile: mainVar(0)", x.mainVar(0), 6);
        x.run(1);
        Harness.due("compile() when done", x.compile(), NonLocalJump.C_REFUSED);
        Harness.dueOutput("after a refused compile when done", x, 6);
        NonLocalJump y = Harness.compiled("BEGIN PRINT MOD 1 0 END");
        y.run(1);
        Harness.due("compile() after a trap", y.compile(), NonLocalJump.C_REFUSED);
        Harness.dueState("after a refused compile after a trap", y, NonLocalJump.S_TRAP, NonLocalJump.T_DIV, 1, 0);
    }
}
