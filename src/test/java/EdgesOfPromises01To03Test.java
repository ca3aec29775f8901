import java.util.List;

/** Promises 1 to 3: each sentence that names an edge has a test of its own. A ".." stands where the document's words are left out. */
public final class EdgesOfPromises01To03Test {
    private static final int MIN = Integer.MIN_VALUE;
    private static final int MAX = Integer.MAX_VALUE;
    private static final int OK = NonLocalJump.C_OK;
    private static final int SYNTAX = NonLocalJump.C_SYNTAX;
    private static final int LIMIT = NonLocalJump.C_LIMIT;
    private static final int NAME = NonLocalJump.C_NAME;
    private static final int EDIT = NonLocalJump.S_EDIT;
    private static final int[] NOT_EDIT = {NonLocalJump.S_RUNNING, NonLocalJump.S_DONE, NonLocalJump.S_TRAP};

    private static final String[] FAILING = {"BEGIN VAR a", "BEGIN VAR a VAR a END", "BEGIN VAR a " + Harness.repeat("LABEL b", 8) + "END", "BEGIN VAR a GOTO b END"};
    private static final int[] FAILURES = {SYNTAX, NAME, LIMIT, NAME};

    public static void main(String[] args) {
        construction();
        appending();
        compiling();
        compiled();
        Harness.finish();
    }

    private static void construction() {
        Harness.sentence("new NonLocalJump(depthLimit) accepts any int.", EdgesOfPromises01To03Test::anyLimit);
        Harness.sentence("The depth limit is depthLimit clamped into MIN_DEPTH..MAX_DEPTH", EdgesOfPromises01To03Test::limitBetween);
        Harness.sentence("(below 1 becomes 1 ..", EdgesOfPromises01To03Test::limitBelow);
        Harness.sentence("above 16 becomes 16)", EdgesOfPromises01To03Test::limitAbove);
        Harness.sentence("and is kept for the life of the object; nothing changes it, not even reset().", EdgesOfPromises01To03Test::limitIsKept);
        Harness.sentence("At the start: status S_EDIT, no tokens (tokenCount() 0), no output (outputCount() 0), trap() T_NONE, executed() 0, depth() 0.",
            EdgesOfPromises01To03Test::start);
    }

    private static void appending() {
        Harness.sentence("the first one failing makes the answer false with nothing changed: .. status() is S_EDIT", EdgesOfPromises01To03Test::notInEdit);
        Harness.sentence("the first one failing makes the answer false with nothing changed: .. tokenCount() < MAX_TOKENS", EdgesOfPromises01To03Test::full);
        Harness.sentence("the first one failing makes the answer false with nothing changed: .. kind is in 1..26", EdgesOfPromises01To03Test::wrongKind);
        Harness.sentence("the first one failing makes the answer false with nothing changed: .. for a kind carrying a name, value is in 0..15.",
            EdgesOfPromises01To03Test::wrongName);
        Harness.sentence("Otherwise the token is appended (value kept for names and NUM, kept as 0 for the other kinds) and the answer is true.",
            EdgesOfPromises01To03Test::appended);
        Harness.sentence("No grammar or scope condition applies here; any sequence of valid tokens is taken.", EdgesOfPromises01To03Test::anySequence);
        Harness.sentence("Status, output and all run state stay unchanged.", EdgesOfPromises01To03Test::tokenLeavesTheRest);
        Harness.sentence("tokenCount() answers the count of tokens held, 0..MAX_TOKENS, and changes nothing.", EdgesOfPromises01To03Test::counting);
    }

    private static void compiling() {
        Harness.sentence("if status() is not S_EDIT, answers C_REFUSED and changes nothing.", EdgesOfPromises01To03Test::refused);
        Harness.sentence("Otherwise it answers the first of these that applies, looking at the whole token sequence",
            EdgesOfPromises01To03Test::firstThatApplies);
        Harness.sentence("When several problems of the same class are present, compile() answers only that class",
            EdgesOfPromises01To03Test::severalOfOneClass);
        Harness.sentence("the tokens are not one program by the grammar (zero tokens included ..", EdgesOfPromises01To03Test::noTokens);
        Harness.sentence("also extra tokens after the final END).", EdgesOfPromises01To03Test::extraTokens);
        Harness.sentence("more than MAX_BODIES bodies (main body included)", EdgesOfPromises01To03Test::manyBodies);
        Harness.sentence("or a body with more than MAX_DECLS declarations", EdgesOfPromises01To03Test::manyDeclarations);
        Harness.sentence("(a twice declared name counts twice)", EdgesOfPromises01To03Test::twiceCountsTwice);
        Harness.sentence("or a PROC with more than MAX_PARAMS parameters.", EdgesOfPromises01To03Test::manyParameters);
        Harness.sentence("a body declares one name twice (any categories)", EdgesOfPromises01To03Test::declaredTwice);
        Harness.sentence("or a use of a name has no declaration in reach", EdgesOfPromises01To03Test::outOfReach);
        Harness.sentence("or its nearest declaration is of the wrong category: the name of SET and REF must be a variable",
            EdgesOfPromises01To03Test::mustBeVariable);
        Harness.sentence("of CALL and ARGP a procedure", EdgesOfPromises01To03Test::mustBeProcedure);
        Harness.sentence("of GOTO a label.", EdgesOfPromises01To03Test::mustBeLabel);
    }

    private static void compiled() {
        Harness.sentence("Any answer but C_OK changes nothing: the tokens stay, status stays S_EDIT", EdgesOfPromises01To03Test::failureChangesNothing);
        Harness.sentence("and more tokens may be appended before the next compile().", EdgesOfPromises01To03Test::moreTokens);
        Harness.sentence("On C_OK: status S_RUNNING, trap() T_NONE, no output, executed() 0, depth() 0, the main activation is made with all its VARs 0",
            EdgesOfPromises01To03Test::okState);
        Harness.sentence("and execution is placed before the first statement of the main body", EdgesOfPromises01To03Test::beforeTheFirst);
        Harness.sentence("(also when it has none: the first run then ends the program with executed() 0).", EdgesOfPromises01To03Test::noStatement);
        Harness.sentence("compile() never drops tokens; tokenCount() is changed by token and reset() alone.", EdgesOfPromises01To03Test::tokensStay);
    }

    private static void anyLimit() {
        for (int limit : new int[] {MIN, MIN + 1, -65536, -1, 0, 1, 16, 17, 65536, MAX - 1, MAX}) {
            NonLocalJump x = Harness.compiled(limit, "BEGIN PROC f BEGIN PRINT 3 END CALL f DONE END");
            Harness.due("limit " + limit + ": run(2)", x.run(2), NonLocalJump.S_DONE);
            Harness.dueOutput("limit " + limit, x, 3);
        }
    }

    private static void limitBetween() {
        for (int limit = 1; limit <= 16; limit++) {
            Harness.due("limit " + limit, Harness.depthLimit(new NonLocalJump(limit)), limit);
        }
    }

    private static void limitBelow() {
        for (int limit : new int[] {0, -1, -2, -15, -16, -17, -256, MIN + 1, MIN}) {
            Harness.due("limit " + limit, Harness.depthLimit(new NonLocalJump(limit)), 1);
        }
    }

    private static void limitAbove() {
        for (int limit : new int[] {17, 18, 31, 32, 33, 255, 256, 257, 65536, MAX - 1, MAX}) {
            Harness.due("limit " + limit, Harness.depthLimit(new NonLocalJump(limit)), 16);
        }
    }

    private static void limitIsKept() {
        for (int limit : new int[] {-5, 1, 3, 9, 16, 40}) {
            int kept = Math.max(1, Math.min(16, limit));
            NonLocalJump x = new NonLocalJump(limit);
            x.reset();
            Harness.due("limit " + limit + " after reset", Harness.depthLimit(x), kept);
            // After a trap, refused calls, readings, a normal end, failed compiles and resets again.
            x.run(1);
            x.compile();
            x.token(27, 99);
            x.mainVar(99);
            x.seen(-99);
            x.reset();
            Harness.due("limit " + limit + " after refused calls and reset", Harness.depthLimit(x), kept);
            for (String program : FAILING) {
                x.reset();
                Harness.feed(x, program);
                x.compile();
                x.run(16);
            }
            x.reset();
            Harness.feed(x, "BEGIN PROC f BEGIN GOTO l END CALL f DONE LABEL l END");
            x.compile();
            x.run(7);
            x.reset();
            x.reset();
            Harness.due("limit " + limit + " after other programs", Harness.depthLimit(x), kept);
        }
    }

    private static void dueEmpty(String what, NonLocalJump x) {
        Harness.dueState(what, x, EDIT, NonLocalJump.T_NONE, 0, 0);
        Harness.due(what + ": tokenCount()", x.tokenCount(), 0);
        Harness.dueOutput(what, x);
    }

    private static void start() {
        for (int limit : new int[] {MIN, -1, 0, 1, 8, 16, 17, MAX}) {
            dueEmpty("new NonLocalJump(" + limit + ")", new NonLocalJump(limit));
        }
        // One object's life is nothing to a new one.
        Harness.inStatus(NonLocalJump.S_TRAP, 16);
        Harness.inStatus(NonLocalJump.S_RUNNING, 16);
        dueEmpty("a new object beside others", new NonLocalJump(16));
    }

    private static void dueRefused(NonLocalJump x, int kind, int value) {
        Harness.due("token(" + kind + ", " + value + ")", x.token(kind, value), false);
    }

    private static void notInEdit() {
        for (int status : NOT_EDIT) {
            NonLocalJump x = Harness.inStatus(status, 5);
            for (int kind = 0; kind <= 27; kind++) {
                dueRefused(x, kind, 0);
                dueRefused(x, kind, 15);
                dueRefused(x, kind, 16);
            }
            Harness.dueLife("token refused in status " + status, x, status);
            Harness.dueTwins("token refused in status " + status, x, Harness.inStatus(status, 5));
        }
        // Refused also when nothing stood against it but the status: a short program that could go on.
        NonLocalJump y = Harness.compiled("BEGIN END");
        dueRefused(y, NonLocalJump.K_END, 0);
        y.run(1);
        dueRefused(y, NonLocalJump.K_NUM, 1);
        Harness.due("tokenCount() of BEGIN END", y.tokenCount(), 2);
    }

    private static NonLocalJump filled() {
        return Harness.feed(new NonLocalJump(7), "BEGIN VAR a " + Harness.repeat("PRINT 6", 125) + "SET a 3 END");
    }

    private static void full() {
        NonLocalJump x = filled();
        NonLocalJump y = filled();
        Harness.due("255 tokens: tokenCount()", y.tokenCount(), 255);
        for (NonLocalJump z : new NonLocalJump[] {x, y}) {
            // The 256th token is taken; it makes the program one END too long.
            Harness.due("token number 256", z.token(NonLocalJump.K_END, 0), true);
            Harness.due("tokenCount() after 256", z.tokenCount(), 256);
        }
        for (int kind = -1; kind <= 28; kind++) {
            dueRefused(x, kind, 0);
            dueRefused(x, kind, 16);
        }
        Harness.due("tokenCount() of a full object", x.tokenCount(), 256);
        Harness.dueTwins("token refused by a full object", x, y);
        // A full object that holds a program runs it.
        NonLocalJump w = Harness.feed(new NonLocalJump(7), "BEGIN " + Harness.repeat("PRINT 1", 127) + "END");
        dueRefused(w, NonLocalJump.K_END, 0);
        Harness.due("a full object: compile()", w.compile(), OK);
        Harness.due("a full object: run(32)", w.run(32), NonLocalJump.S_RUNNING);
        // A full one that was reset has room again.
        w.reset();
        Harness.due("a full object after reset: token(1, 0)", w.token(1, 0), true);
    }

    private static void wrongKind() {
        int[] wrong = {MIN, MIN + 1, -256, -26, -2, -1, 0, 27, 28, 52, 255, 256, 257, 65537, MAX - 1, MAX};
        NonLocalJump x = Harness.inStatus(EDIT, 4);
        for (int kind : wrong) {
            for (int value : new int[] {MIN, -1, 0, 1, 15, 16, MAX}) {
                dueRefused(x, kind, value);
            }
        }
        Harness.dueLife("token with a wrong kind", x, EDIT);
        Harness.dueTwins("token with a wrong kind", x, Harness.inStatus(EDIT, 4));
        NonLocalJump y = new NonLocalJump(4);
        for (int kind = 1; kind <= 26; kind++) {
            Harness.due("token(" + kind + ", 0)", y.token(kind, 0), true);
        }
        Harness.due("tokenCount() after each kind", y.tokenCount(), 26);
    }

    private static void wrongName() {
        int[] wrong = {MIN, MIN + 1, -256, -16, -2, -1, 16, 17, 31, 32, 255, 256, 65536, MAX - 1, MAX};
        NonLocalJump x = Harness.inStatus(EDIT, 4);
        for (int kind = 1; kind <= 26; kind++) {
            if (Harness.carriesName(kind)) {
                for (int value : wrong) {
                    dueRefused(x, kind, value);
                }
            }
        }
        Harness.dueLife("token with a wrong name", x, EDIT);
        Harness.dueTwins("token with a wrong name", x, Harness.inStatus(EDIT, 4));
    }

    private static void appended() {
        NonLocalJump x = new NonLocalJump(1);
        int[][] tokens = {{NonLocalJump.K_BEGIN, MAX}, {NonLocalJump.K_VAR, 15}, {NonLocalJump.K_SET, 15}, {NonLocalJump.K_MUL, -1},
            {NonLocalJump.K_NUM, MIN}, {NonLocalJump.K_NUM, MAX}, {NonLocalJump.K_PRINT, 16}, {NonLocalJump.K_REF, 15}, {NonLocalJump.K_END, MIN}};
        for (int i = 0; i < tokens.length; i++) {
            Harness.due("token number " + i, x.token(tokens[i][0], tokens[i][1]), true);
            Harness.due("tokenCount() after token number " + i, x.tokenCount(), i + 1);
        }
        Harness.due("compile()", x.compile(), OK);
        Harness.due("run(2)", x.run(2), NonLocalJump.S_DONE);
        Harness.due("mainVar(15)", x.mainVar(15), MIN);
        Harness.dueOutput("names and numbers are kept", x, MIN);
    }

    private static void anySequence() {
        NonLocalJump x = new NonLocalJump(1);
        for (int first = 1; first <= 26; first++) {
            for (int second = 1; second <= 26; second++) {
                x.reset();
                Harness.due("token(" + first + ", 0)", x.token(first, 0), true);
                Harness.due("token(" + second + ", 15) after it", x.token(second, 15), true);
                Harness.due("tokenCount()", x.tokenCount(), 2);
            }
        }
        for (int kind = 1; kind <= 26; kind++) {
            x.reset();
            for (int i = 0; i < 256; i++) {
                Harness.due("token(" + kind + ", 3) number " + i, x.token(kind, 3), true);
            }
            Harness.due("256 tokens of kind " + kind + ": tokenCount()", x.tokenCount(), 256);
            Harness.due("256 tokens of kind " + kind + ": compile()", x.compile(), SYNTAX);
        }
    }

    private static void tokenLeavesTheRest() {
        NonLocalJump x = new NonLocalJump(2);
        for (int[] token : Harness.tokens("BEGIN VAR a PROC f PVAL b BEGIN PRINT REF b END SET a 4 CALL f ARGV 1 DONE END")) {
            Harness.due("token", x.token(token[0], token[1]), true);
            Harness.dueState("after a token", x, EDIT, NonLocalJump.T_NONE, 0, 0);
            Harness.dueOutput("after a token", x);
            Harness.due("after a token: mainVar(0)", x.mainVar(0), 0);
            Harness.due("after a token: seen(0)", x.seen(0), 0);
        }
    }

    private static void counting() {
        NonLocalJump x = new NonLocalJump(2);
        for (int i = 0; i < 256; i++) {
            for (int again = 0; again < 3; again++) {
                Harness.due("tokenCount()", x.tokenCount(), i);
            }
            x.token(NonLocalJump.K_NUM, i);
        }
        Harness.due("tokenCount()", x.tokenCount(), 256);
        x.token(NonLocalJump.K_NUM, 1);
        Harness.due("tokenCount() after a refused token", x.tokenCount(), 256);
        for (int status = 0; status <= 3; status++) {
            NonLocalJump asked = Harness.inStatus(status, 5);
            for (int i = 0; i < 5; i++) {
                Harness.due("tokenCount() in status " + status, asked.tokenCount(), 46);
            }
            Harness.dueLife("tokenCount() in status " + status, asked, status);
            Harness.dueTwins("tokenCount() in status " + status, asked, Harness.inStatus(status, 5));
        }
    }

    private static void refused() {
        for (int status : NOT_EDIT) {
            NonLocalJump x = Harness.inStatus(status, 5);
            for (int i = 0; i < 3; i++) {
                Harness.due("compile() in status " + status, x.compile(), NonLocalJump.C_REFUSED);
            }
            Harness.dueLife("compile() refused in status " + status, x, status);
            Harness.dueTwins("compile() refused in status " + status, x, Harness.inStatus(status, 5));
        }
        NonLocalJump y = Harness.compiled("BEGIN END");
        Harness.due("compile() right after C_OK", y.compile(), NonLocalJump.C_REFUSED);
        y.run(1);
        Harness.due("compile() of an ended program", y.compile(), NonLocalJump.C_REFUSED);
    }

    private static String nested(int depth) {
        return Harness.repeat("PROC a BEGIN", depth) + Harness.repeat("END", depth);
    }

    private static void firstThatApplies() {
        String bodies = nested(16);
        String decls = "LABEL a LABEL b LABEL c LABEL d LABEL e LABEL f LABEL g LABEL h LABEL i ";
        String params = "PROC a PVAL a PVAL b PVAL c PVAL d PVAL e BEGIN END ";
        String[] overLimit = {bodies, decls, params};
        String[] wrongNames = {"PRINT REF o ", "GOTO o ", "LABEL p LABEL p ", "CALL p DONE LABEL p "};
        for (String over : overLimit) {
            Harness.dueCompile("BEGIN " + over + "END", LIMIT);
            // The wrong syntax comes first, be it the very last token.
            Harness.dueCompile("BEGIN " + over, SYNTAX);
            Harness.dueCompile("BEGIN " + over + "END END", SYNTAX);
            for (String name : wrongNames) {
                Harness.dueCompile("BEGIN " + name + "END", NAME);
                Harness.dueCompile("BEGIN " + name, SYNTAX);
                Harness.dueCompile("BEGIN " + name + "END FI", SYNTAX);
                Harness.dueCompile("BEGIN " + over + name + "END", LIMIT);
                Harness.dueCompile("BEGIN " + over + name + "FI END", SYNTAX);
            }
            // A wrong name that stands before what is over the limit does not come first.
            Harness.dueCompile("BEGIN VAR p VAR p PROC o BEGIN GOTO n " + decls + "END " + (over == decls ? "" : over) + "END", LIMIT);
        }
        String filled = "BEGIN PRINT REF o " + Harness.repeat("PRINT 1", 126);
        Harness.dueCompile(filled + "END", NAME);
        Harness.dueCompile(filled + "FI", SYNTAX);
        Harness.dueCompile("BEGIN PRINT REF o " + Harness.repeat("LABEL a", 9) + Harness.repeat("PRINT 1", 121) + "LABEL b END", LIMIT);
    }

    private static void severalOfOneClass() {
        Harness.dueCompile("END FI BEGIN VAR a ELSE DONE", SYNTAX);
        Harness.dueCompile("BEGIN " + nested(20) + Harness.repeat("LABEL a", 12) + "END", LIMIT);
        Harness.dueCompile("BEGIN PROC a PVAL a PVAL b PVAL c PVAL d PVAL e BEGIN " + Harness.repeat("VAR f", 9) + nested(17) + "END END", LIMIT);
        Harness.dueCompile("BEGIN VAR a VAR a SET b 1 CALL a DONE GOTO a GOTO c PRINT REF d LABEL e LABEL e END", NAME);
    }

    private static void noTokens() {
        NonLocalJump x = new NonLocalJump(3);
        Harness.due("compile() of a new object", x.compile(), SYNTAX);
        Harness.due("compile() of a new object again", x.compile(), SYNTAX);
        dueEmpty("after it", x);
        Harness.due("run(1) after it", x.run(1), EDIT);
        for (int status = 0; status <= 3; status++) {
            NonLocalJump y = Harness.inStatus(status, 3);
            y.reset();
            Harness.due("compile() after reset from status " + status, y.compile(), SYNTAX);
            dueEmpty("after it", y);
        }
    }

    private static void extraTokens() {
        for (String program : new String[] {"BEGIN END", "BEGIN PRINT 1 END", "BEGIN PROC f BEGIN END END"}) {
            for (int kind = 1; kind <= 26; kind++) {
                NonLocalJump x = Harness.feed(new NonLocalJump(3), program);
                x.token(kind, 0);
                Harness.due("compile() of " + program + " and kind " + kind, x.compile(), SYNTAX);
                Harness.due("status() after it", x.status(), EDIT);
            }
        }
        Harness.dueCompile("BEGIN END BEGIN END", SYNTAX);
        Harness.dueCompile("BEGIN " + Harness.repeat("PRINT 1", 126) + "END END", SYNTAX);
        Harness.dueCompile("BEGIN END " + Harness.repeat("END", 254), SYNTAX);
    }

    private static void manyBodies() {
        String fourteen = "PROC a BEGIN PROC a BEGIN END PROC b BEGIN END PROC c BEGIN END PROC d BEGIN END PROC e BEGIN END PROC f BEGIN END END "
            + "PROC b BEGIN PROC a BEGIN END PROC b BEGIN END PROC c BEGIN END PROC d BEGIN END PROC e BEGIN END PROC f BEGIN END END ";
        Harness.dueCompile("BEGIN " + fourteen + "END", OK);
        Harness.dueCompile("BEGIN " + fourteen + "PROC c BEGIN END END", OK);
        Harness.dueCompile("BEGIN " + fourteen + "PROC c BEGIN END PROC d BEGIN END END", LIMIT);
        Harness.dueCompile("BEGIN " + fourteen + "PROC c BEGIN PROC d BEGIN END END END", LIMIT);
        for (int depth = 14; depth <= 18; depth++) {
            Harness.dueCompile("BEGIN " + nested(depth) + "END", depth <= 15 ? OK : LIMIT);
        }
        Harness.dueCompile("BEGIN " + nested(84) + "END", LIMIT);
        // The sixteenth body is a body like the others.
        Harness.duePrints("BEGIN " + fourteen + "PROC c PVAL a BEGIN VAR b PRINT REF a PRINT REF b END CALL c ARGV 5 DONE END", 5, 0);
    }

    private static void manyDeclarations() {
        for (int count = 6; count <= 12; count++) {
            StringBuilder vars = new StringBuilder();
            StringBuilder procs = new StringBuilder();
            StringBuilder labels = new StringBuilder();
            for (int i = 0; i < count; i++) {
                String name = " " + (char) ('a' + i) + " ";
                vars.append("VAR").append(name);
                procs.append("PROC").append(name).append("BEGIN END ");
                labels.append("LABEL").append(name);
            }
            int due = count <= 8 ? OK : LIMIT;
            for (StringBuilder declared : new StringBuilder[] {vars, procs, labels}) {
                Harness.dueCompile("BEGIN " + declared + "END", due);
                Harness.dueCompile("BEGIN PROC p BEGIN " + declared + "END END", due);
                Harness.dueCompile("BEGIN PROC p BEGIN PROC p BEGIN " + declared + "END END END", due);
            }
            int ownDue = count + 2 <= 8 ? OK : LIMIT;
            Harness.dueCompile("BEGIN PROC o PVAL o PPROC p BEGIN " + vars + "END END", ownDue);
            Harness.dueCompile("BEGIN PROC o PVAL o PPROC p BEGIN " + labels + "END END", ownDue);
        }
        // The body over the limit may be any: the one before, around or behind others.
        String nine = "VAR a VAR b VAR c VAR d VAR e VAR f VAR g VAR h VAR i ";
        Harness.dueCompile("BEGIN PROC a BEGIN " + nine + "END PROC b BEGIN END END", LIMIT);
        Harness.dueCompile("BEGIN PROC a BEGIN END PROC b BEGIN " + nine + "END END", LIMIT);
        Harness.dueCompile("BEGIN " + nine + "PROC j BEGIN END END", LIMIT);
        Harness.dueCompile("BEGIN VAR a VAR b VAR c VAR d VAR e VAR f VAR g PROC h BEGIN END LABEL i END", LIMIT);
        Harness.dueCompile("BEGIN VAR a VAR b VAR c VAR d VAR e VAR f VAR g VAR h PROC i BEGIN END END", LIMIT);
    }

    private static void twiceCountsTwice() {
        for (String declared : new String[] {"VAR a", "LABEL a", "PROC a BEGIN END"}) {
            Harness.dueCompile("BEGIN " + Harness.repeat(declared, 8) + "END", NAME);
            Harness.dueCompile("BEGIN " + Harness.repeat(declared, 9) + "END", LIMIT);
            Harness.dueCompile("BEGIN PROC p BEGIN " + Harness.repeat(declared, 9) + "END END", LIMIT);
        }
        Harness.dueCompile("BEGIN VAR a VAR b VAR c VAR d VAR e VAR f VAR g LABEL a END", NAME);
        Harness.dueCompile("BEGIN VAR a VAR b VAR c VAR d VAR e VAR f VAR g VAR h LABEL a END", LIMIT);
        Harness.dueCompile("BEGIN PROC p PVAL a PVAL a PVAL a PVAL a BEGIN VAR a VAR a VAR a LABEL a END END", NAME);
        Harness.dueCompile("BEGIN PROC p PVAL a PVAL a PVAL a PVAL a BEGIN VAR a VAR a VAR a LABEL a LABEL a END END", LIMIT);
        Harness.dueCompile("BEGIN PROC p PVAL a PVAL a PVAL a PVAL a PVAL a BEGIN END END", LIMIT);
    }

    private static void manyParameters() {
        for (String kind : new String[] {"PVAL", "PPROC"}) {
            StringBuilder params = new StringBuilder();
            for (int count = 0; count <= 16; count++) {
                Harness.dueCompile("BEGIN PROC p " + params + "BEGIN END END", count <= 4 ? OK : LIMIT);
                Harness.dueCompile("BEGIN PROC p BEGIN PROC o " + params + "BEGIN END END END", count <= 4 ? OK : LIMIT);
                params.append(kind).append(' ').append((char) ('a' + count % 16)).append(' ');
            }
        }
        Harness.dueCompile("BEGIN PROC p PVAL a PPROC b PVAL c PPROC d BEGIN END END", OK);
        Harness.dueCompile("BEGIN PROC p PVAL a PPROC b PVAL c PPROC d PVAL e BEGIN END END", LIMIT);
        // Each PROC has its own four, and the arguments of a call are not parameters.
        Harness.dueCompile("BEGIN PROC p PVAL a PVAL b PVAL c PVAL d BEGIN END PROC o PVAL a PVAL b PVAL c PVAL d BEGIN PROC n PVAL a PVAL b PVAL c PVAL d "
            + "BEGIN END END END", OK);
        Harness.dueCompile("BEGIN PROC p BEGIN END CALL p " + Harness.repeat("ARGV 1", 5) + "DONE END", OK);
        Harness.dueCompile("BEGIN PROC a PVAL a PVAL b PVAL c PVAL d PVAL e BEGIN END PROC b BEGIN END END", LIMIT);
        Harness.dueCompile("BEGIN PROC a BEGIN END PROC b PVAL a PVAL b PVAL c PVAL d PVAL e BEGIN END END", LIMIT);
    }

    private static void declaredTwice() {
        String[] params = {"PVAL a ", "PPROC a "};
        String[] decls = {"VAR a ", "PROC a BEGIN END "};
        String label = "LABEL a ";
        for (String first : decls) {
            for (String second : decls) {
                Harness.dueCompile("BEGIN " + first + second + "END", NAME);
                Harness.dueCompile("BEGIN PROC p BEGIN " + first + second + "END END", NAME);
            }
            Harness.dueCompile("BEGIN " + first + label + "END", NAME);
            Harness.dueCompile("BEGIN " + first + "END", OK);
        }
        for (String first : params) {
            for (String second : params) {
                Harness.dueCompile("BEGIN PROC p " + first + second + "BEGIN END END", NAME);
            }
            for (String second : decls) {
                Harness.dueCompile("BEGIN PROC p " + first + "BEGIN " + second + "END END", NAME);
            }
            Harness.dueCompile("BEGIN PROC p " + first + "BEGIN " + label + "END END", NAME);
            // The procedure's name is declared outside, so its parameter may bear it.
            Harness.dueCompile("BEGIN PROC a " + first + "BEGIN END END", OK);
            Harness.dueCompile("BEGIN PROC p " + first + "BEGIN END PROC o " + first + "BEGIN END VAR a END", OK);
        }
        Harness.dueCompile("BEGIN " + label + label + "END", NAME);
        Harness.dueCompile("BEGIN " + label + "PRINT 1 " + label + "END", NAME);
        Harness.dueCompile("BEGIN PROC p BEGIN LABEL a END LABEL a END", OK);
        Harness.dueCompile("BEGIN VAR a PROC p BEGIN VAR a PROC o BEGIN VAR a END END END", OK);
        Harness.dueCompile("BEGIN VAR p VAR p END", NAME);
    }

    private static void outOfReach() {
        String[] uses = {"SET a 1 ", "PRINT REF a ", "CALL a DONE ", "CALL p ARGP a DONE ", "GOTO a "};
        String[] declared = {"VAR a", "VAR a", "PROC a BEGIN END", "PROC a BEGIN END", ""};
        for (int i = 0; i < uses.length; i++) {
            String label = i == 4 ? "LABEL a " : "";
            String use = uses[i];
            Harness.dueCompile("BEGIN PROC p BEGIN END " + use + "END", NAME);
            Harness.dueCompile("BEGIN PROC p BEGIN " + use + "END END", NAME);
            // Declared further in, or beside, is not in reach; declared around is.
            Harness.dueCompile("BEGIN PROC p BEGIN " + declared[i] + " " + label + "END " + use + "END", NAME);
            Harness.dueCompile("BEGIN PROC p BEGIN END PROC o BEGIN " + declared[i] + " " + label + "END PROC n BEGIN " + use + "END END", NAME);
            Harness.dueCompile("BEGIN " + declared[i] + " PROC p BEGIN PROC o BEGIN " + use + "END END " + label + "END", OK);
            Harness.dueCompile("BEGIN " + declared[i] + " PROC p BEGIN END " + use + label + "END", OK);
            Harness.dueCompile("BEGIN PROC p BEGIN END IF 0 " + use + "FI END", NAME);
            Harness.dueCompile("BEGIN PROC p BEGIN END IF 0 ELSE IF 1 FI " + use + "FI END", NAME);
        }
        Harness.dueCompile("BEGIN PROC p PVAL a BEGIN END PRINT REF a END", NAME);
        Harness.dueCompile("BEGIN PROC p PPROC a BEGIN END CALL a DONE END", NAME);
        Harness.dueCompile("BEGIN PROC p BEGIN END CALL p ARGV ADD 1 REF a DONE END", NAME);
        Harness.dueCompile("BEGIN IF REF a FI END", NAME);
        Harness.dueCompile("BEGIN VAR a VAR p PRINT REF b END", NAME);
        Harness.dueCompile("BEGIN VAR b PRINT REF a END", NAME);
        Harness.dueCompile("BEGIN VAR o PRINT REF p END", NAME);
        Harness.dueCompile("BEGIN " + Harness.repeat("PRINT 1", 126) + "PRINT REF a END", NAME);
    }

    /** Wants the use to be right with these declarations of a, and wrong with all the others. */
    private static void dueCategory(String use, String... right) {
        List<String> fitting = List.of(right);
        for (String kind : new String[] {"VAR", "PROC", "PVAL", "PPROC", "LABEL"}) {
            String param = kind.startsWith("P") && !kind.equals("PROC") ? kind + " a " : "";
            String decl = kind.equals("VAR") ? "VAR a " : kind.equals("PROC") ? "PROC a BEGIN END " : "";
            String label = kind.equals("LABEL") ? "LABEL a " : "";
            int due = fitting.contains(kind) ? OK : NAME;
            Harness.dueCompile("BEGIN PROC p " + param + "BEGIN " + decl + use + label + "END END", due);
            Harness.dueCompile("BEGIN PROC p " + param + "BEGIN " + decl + "PROC o BEGIN " + use + "END " + label + "END END", due);
            // What is declared further out changes nothing.
            for (String outer : new String[] {"VAR a ", "PROC a BEGIN END "}) {
                Harness.dueCompile("BEGIN " + outer + "PROC p " + param + "BEGIN " + decl + use + label + "END END", due);
            }
            Harness.dueCompile("BEGIN PROC p " + param + "BEGIN " + decl + use + label + "END LABEL a END", due);
        }
    }

    private static void mustBeVariable() {
        dueCategory("SET a 1 ", "VAR", "PVAL");
        dueCategory("PRINT REF a ", "VAR", "PVAL");
        dueCategory("IF ADD 1 REF a FI ", "VAR", "PVAL");
    }

    private static void mustBeProcedure() {
        dueCategory("CALL a DONE ", "PROC", "PPROC");
        dueCategory("CALL p ARGP a DONE ", "PROC", "PPROC");
    }

    private static void mustBeLabel() {
        dueCategory("GOTO a ", "LABEL");
        dueCategory("IF 1 ELSE GOTO a FI ", "LABEL");
    }

    private static void failureChangesNothing() {
        for (int i = 0; i < FAILING.length; i++) {
            NonLocalJump x = Harness.feed(new NonLocalJump(6), FAILING[i]);
            NonLocalJump y = Harness.feed(new NonLocalJump(6), FAILING[i]);
            for (int again = 0; again < 3; again++) {
                Harness.due("compile() of " + FAILING[i], x.compile(), FAILURES[i]);
                Harness.due("tokenCount() after it", x.tokenCount(), y.tokenCount());
                Harness.dueState("after it", x, EDIT, NonLocalJump.T_NONE, 0, 0);
                Harness.due("run(256) after it", x.run(256), EDIT);
            }
            Harness.dueTwins("failed compile of " + FAILING[i], x, y);
        }
    }

    private static void moreTokens() {
        String[] parts = {"BEGIN", "PROC f PVAL a", "BEGIN PRINT REF a IF 1", "FI END CALL f ARGV ADD 3", "4 DONE GOTO l PRINT 9", "LABEL l", "END"};
        NonLocalJump x = new NonLocalJump(6);
        Harness.due("compile() of nothing", x.compile(), SYNTAX);
        for (String part : parts) {
            Harness.feed(x, part);
            Harness.due("compile() after " + part, x.compile(), part.equals("END") ? OK : SYNTAX);
        }
        Harness.due("run(256)", x.run(256), NonLocalJump.S_DONE);
        Harness.dueOutput("the program in parts", x, 7);
        // After the other failures tokens are taken too, but what is wrong stays wrong.
        NonLocalJump y = Harness.feed(new NonLocalJump(6), "BEGIN GOTO a END");
        Harness.due("compile() without the label", y.compile(), NAME);
        Harness.due("token(10, 0) after C_NAME", y.token(NonLocalJump.K_LABEL, 0), true);
        Harness.due("compile() with a label after END", y.compile(), SYNTAX);
        NonLocalJump z = Harness.feed(new NonLocalJump(6), "BEGIN " + Harness.repeat("LABEL a", 9) + "END");
        Harness.due("compile() with nine labels", z.compile(), LIMIT);
        Harness.due("token(2, 0) after C_LIMIT", z.token(NonLocalJump.K_END, 0), true);
        Harness.due("compile() with one END more", z.compile(), SYNTAX);
        Harness.due("tokenCount()", z.tokenCount(), 12);
    }

    private static void okState() {
        for (int status = 0; status <= 3; status++) {
            // The object has had a life before, in which its variables, output and counters were used.
            NonLocalJump x = Harness.inStatus(status, 6);
            x.reset();
            Harness.feed(x, "BEGIN VAR a VAR b VAR c VAR d VAR l VAR p PROC f BEGIN END SET a 1 PRINT 5 CALL f DONE END");
            Harness.due("compile()", x.compile(), OK);
            Harness.dueState("after C_OK", x, NonLocalJump.S_RUNNING, NonLocalJump.T_NONE, 0, 0);
            Harness.dueOutput("after C_OK", x);
            for (int name = 0; name < 16; name++) {
                Harness.due("after C_OK: mainVar(" + name + ")", x.mainVar(name), 0);
                Harness.due("after C_OK: seen(" + name + ")", x.seen(name), 0);
            }
        }
        // Also where the compile that failed before saw other declarations.
        NonLocalJump y = Harness.feed(new NonLocalJump(6), "BEGIN VAR a SET a 5");
        y.compile();
        Harness.feed(y, "PRINT REF a END");
        Harness.due("compile() after a failed one", y.compile(), OK);
        Harness.dueState("after C_OK", y, NonLocalJump.S_RUNNING, NonLocalJump.T_NONE, 0, 0);
        Harness.due("after C_OK: mainVar(0)", y.mainVar(0), 0);
    }

    private static void beforeTheFirst() {
        String[] before = {"", "VAR a ", "PROC f BEGIN PRINT 9 END ", "PROC f PVAL a BEGIN PRINT 9 PRINT 8 END VAR a ",
            "VAR a PROC f BEGIN PROC g BEGIN PRINT 9 END CALL g DONE END ", "PROC f BEGIN LABEL l PRINT 9 END PROC g BEGIN END "};
        for (String declared : before) {
            NonLocalJump x = Harness.compiled("BEGIN " + declared + "PRINT 1 PRINT 2 END");
            Harness.due("outputCount() of " + declared, x.outputCount(), 0);
            Harness.due("run(1) of " + declared, x.run(1), NonLocalJump.S_RUNNING);
            Harness.dueOutput("the first statement after " + declared, x, 1);
            Harness.due("depth() after it", x.depth(), 0);
        }
    }

    private static void noStatement() {
        for (String declared : new String[] {"", "VAR a ", "PROC f BEGIN PRINT 9 END ", "VAR a PROC f BEGIN PROC g BEGIN END PRINT 9 END VAR b "}) {
            for (int fuel : new int[] {MIN, 0, 1, 256, MAX}) {
                NonLocalJump x = Harness.compiled("BEGIN " + declared + "END");
                Harness.dueState("no statement, before the first run", x, NonLocalJump.S_RUNNING, NonLocalJump.T_NONE, 0, 0);
                Harness.due("no statement: run(" + fuel + ")", x.run(fuel), NonLocalJump.S_DONE);
                Harness.dueState("no statement, after the first run", x, NonLocalJump.S_DONE, NonLocalJump.T_NONE, 0, 0);
                Harness.due("no statement: outputCount()", x.outputCount(), 0);
            }
        }
    }

    private static void tokensStay() {
        for (String program : FAILING) {
            NonLocalJump x = Harness.feed(new NonLocalJump(6), program);
            int count = x.tokenCount();
            x.compile();
            Harness.due("tokenCount() after a failed compile", x.tokenCount(), count);
        }
        NonLocalJump y = Harness.feed(new NonLocalJump(6), "BEGIN PROC f BEGIN PRINT 1 END CALL f DONE PRINT DIV 1 0 END");
        int count = y.tokenCount();
        y.compile();
        Harness.due("tokenCount() after C_OK", y.tokenCount(), count);
        for (int i = 0; i < 5; i++) {
            y.run(1);
            y.compile();
            y.token(NonLocalJump.K_END, 0);
            Harness.due("tokenCount() while it runs and after its trap", y.tokenCount(), count);
        }
        y.reset();
        Harness.due("tokenCount() after reset", y.tokenCount(), 0);
        NonLocalJump z = Harness.compiled("BEGIN PRINT 1 END");
        z.run(256);
        Harness.due("tokenCount() after the end", z.tokenCount(), 4);
    }
}
