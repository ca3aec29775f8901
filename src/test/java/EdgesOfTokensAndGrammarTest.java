import java.util.ArrayList;
import java.util.List;

/** "Tokens" and "Grammar": each sentence that names an edge has a test of its own. */
public final class EdgesOfTokensAndGrammarTest {
    private static final int MIN = Integer.MIN_VALUE;
    private static final int MAX = Integer.MAX_VALUE;
    private static final int OK = NonLocalJump.C_OK;
    private static final int SYNTAX = NonLocalJump.C_SYNTAX;
    private static final String[] OPERATORS = {"ADD", "SUB", "MUL", "DIV", "MOD", "LT", "EQ"};

    public static void main(String[] args) {
        Harness.sentence("NAMES are 0..15.", EdgesOfTokensAndGrammarTest::names);
        Harness.sentence("The value of a K_NUM token is its int (any int).", EdgesOfTokensAndGrammarTest::anyNumber);
        Harness.sentence("The kinds K_VAR K_PROC K_PVAL K_PPROC K_SET K_GOTO K_LABEL K_CALL K_ARGP K_REF carry a name as value.",
            EdgesOfTokensAndGrammarTest::kindsWithNames);
        Harness.sentence("Every other kind ignores its value; it is kept as 0.", EdgesOfTokensAndGrammarTest::ignoredValues);
        Harness.sentence("The whole token sequence must be exactly one program", EdgesOfTokensAndGrammarTest::oneProgram);
        Harness.sentence("body := decl* top*", EdgesOfTokensAndGrammarTest::bodies);
        Harness.sentence("decl := VAR n | PROC n param* BEGIN body END", EdgesOfTokensAndGrammarTest::declarations);
        Harness.sentence("stmt := SET n expr | PRINT expr | GOTO n", EdgesOfTokensAndGrammarTest::plainStatements);
        Harness.sentence("CALL n arg* DONE", EdgesOfTokensAndGrammarTest::calls);
        Harness.sentence("IF expr stmt* FI | IF expr stmt* ELSE stmt* FI", EdgesOfTokensAndGrammarTest::ifs);
        Harness.sentence("expr := NUM v | REF n | op expr expr", EdgesOfTokensAndGrammarTest::expressions);
        Harness.sentence("So LABEL may stand only in the top-level statement list of a body, never inside IF.",
            EdgesOfTokensAndGrammarTest::labels);
        Harness.finish();
    }

    private static void dueToken(NonLocalJump x, int kind, int value, boolean taken) {
        Harness.due("token(" + kind + ", " + value + ")", x.token(kind, value), taken);
    }

    private static void names() {
        for (int kind = 1; kind <= 26; kind++) {
            if (Harness.carriesName(kind)) {
                NonLocalJump x = new NonLocalJump(16);
                dueToken(x, kind, -1, false);
                dueToken(x, kind, 0, true);
                dueToken(x, kind, 15, true);
                dueToken(x, kind, 16, false);
                Harness.due("tokenCount() after two names of four", x.tokenCount(), 2);
            }
        }
        // The last name of one activation and the first of the next are not one and the same.
        Harness.duePrints("BEGIN VAR p PROC f BEGIN VAR a SET a 1 SET p 2 PRINT REF a PRINT REF p END CALL f DONE PRINT REF p END",
            1, 2, 2);
        Harness.duePrints("BEGIN VAR a PROC p PVAL p BEGIN SET a REF p GOTO o PRINT 1 LABEL o END CALL p ARGV 4 DONE PRINT REF a END", 4);
        Harness.duePrints("BEGIN PROC a PPROC p BEGIN CALL p DONE END PROC p BEGIN PRINT 5 END CALL a ARGP p DONE END", 5);
        Harness.duePrints("BEGIN PROC p PPROC a BEGIN CALL a DONE END PROC a BEGIN PRINT 6 END CALL p ARGP a DONE END", 6);
        Harness.duePrints("BEGIN GOTO p LABEL a PRINT 7 GOTO b LABEL p PRINT 8 GOTO a LABEL b END", 8, 7);
    }

    private static void anyNumber() {
        for (int value : new int[] {MIN, MIN + 1, -65536, -16, -1, 0, 1, 15, 16, 255, 256, 65536, MAX - 1, MAX}) {
            NonLocalJump x = new NonLocalJump(1);
            dueToken(x, NonLocalJump.K_BEGIN, 0, true);
            dueToken(x, NonLocalJump.K_PRINT, 0, true);
            dueToken(x, NonLocalJump.K_NUM, value, true);
            dueToken(x, NonLocalJump.K_END, 0, true);
            Harness.due("compile()", x.compile(), OK);
            Harness.due("run(1)", x.run(1), NonLocalJump.S_DONE);
            Harness.due("output(0)", x.output(0), value);
        }
    }

    private static void kindsWithNames() {
        int[] named = {3, 4, 5, 6, 7, 9, 10, 11, 13, 19};
        for (int kind : named) {
            for (int value : new int[] {MIN, -1, 16, MAX}) {
                dueToken(new NonLocalJump(1), kind, value, false);
            }
            for (int name = 0; name < 16; name++) {
                dueToken(new NonLocalJump(1), kind, name, true);
            }
        }
        // The name that a kind carries is the one that counts: all sixteen are told apart.
        for (int name = 0; name < 16; name++) {
            String n = "" + (char) ('a' + name);
            String other = "" + (char) ('a' + (name + 1) % 16);
            Harness.dueCompile("BEGIN VAR " + n + " SET " + n + " REF " + n + " END", OK);
            Harness.dueCompile("BEGIN VAR " + n + " SET " + other + " 1 END", NonLocalJump.C_NAME);
            Harness.dueCompile("BEGIN VAR " + n + " PRINT REF " + other + " END", NonLocalJump.C_NAME);
            Harness.dueCompile("BEGIN LABEL " + n + " GOTO " + n + " END", OK);
            Harness.dueCompile("BEGIN LABEL " + n + " GOTO " + other + " END", NonLocalJump.C_NAME);
            Harness.dueCompile("BEGIN PROC " + n + " PPROC " + other + " BEGIN CALL " + other + " ARGP " + n + " DONE END END", OK);
            Harness.dueCompile("BEGIN PROC " + n + " BEGIN END CALL " + other + " DONE END", NonLocalJump.C_NAME);
            Harness.dueCompile("BEGIN PROC " + n + " BEGIN END CALL " + n + " ARGP " + other + " DONE END", NonLocalJump.C_NAME);
            Harness.dueCompile("BEGIN PROC " + n + " PVAL " + other + " BEGIN PRINT REF " + other + " END END", OK);
        }
    }

    private static void ignoredValues() {
        List<int[]> plain = Harness.tokens("BEGIN PROC f PVAL a BEGIN PRINT REF a END IF 1 CALL f ARGV ADD 1 SUB 9 2 DONE ELSE PRINT 1 FI "
            + "IF LT 1 0 ELSE PRINT MUL 3 DIV 8 2 FI PRINT EQ 1 MOD 5 4 END");
        for (int value : new int[] {MIN, -1, 1, 15, 16, 26, MAX}) {
            List<int[]> odd = new ArrayList<>();
            for (int[] token : plain) {
                boolean kept = Harness.carriesName(token[0]) || token[0] == NonLocalJump.K_NUM;
                odd.add(new int[] {token[0], kept ? token[1] : value});
            }
            NonLocalJump x = Harness.feed(new NonLocalJump(16), odd);
            Harness.due("compile() with the ignored value " + value, x.compile(), OK);
            Harness.due("run(256) with the ignored value " + value, x.run(256), NonLocalJump.S_DONE);
            Harness.dueOutput("with the ignored value " + value, x, 8, 12, 1);
            for (int kind = 1; kind <= 26; kind++) {
                dueToken(new NonLocalJump(1), kind, value, !Harness.carriesName(kind) || value >= 0 && value <= 15);
            }
        }
    }

    private static void oneProgram() {
        Harness.dueCompile("", SYNTAX);
        Harness.dueCompile("BEGIN", SYNTAX);
        Harness.dueCompile("END", SYNTAX);
        Harness.dueCompile("BEGIN END", OK);
        Harness.dueCompile("BEGIN END END", SYNTAX);
        Harness.dueCompile("BEGIN BEGIN END", SYNTAX);
        Harness.dueCompile("BEGIN BEGIN END END", SYNTAX);
        Harness.dueCompile("BEGIN END BEGIN END", SYNTAX);
        Harness.dueCompile("PRINT 1", SYNTAX);
        Harness.dueCompile("PRINT 1 BEGIN END", SYNTAX);
        Harness.dueCompile("BEGIN END PRINT 1", SYNTAX);
        Harness.dueCompile("PROC a BEGIN END", SYNTAX);
        // Nothing but END ends a body.
        for (String end : new String[] {"DONE", "FI", "ELSE", "1", "BEGIN"}) {
            Harness.dueCompile("BEGIN " + end, SYNTAX);
            Harness.dueCompile("BEGIN PRINT 1 " + end, SYNTAX);
            Harness.dueCompile("BEGIN PROC f BEGIN " + end + " END", SYNTAX);
        }
        String longest = "BEGIN " + Harness.repeat("PRINT 1", 127) + "END";
        Harness.due("the longest program: tokens", Harness.tokens(longest).size(), 256);
        Harness.dueCompile(longest, OK);
        Harness.dueCompile("BEGIN " + Harness.repeat("PRINT 1", 127) + "PRINT", SYNTAX);
        Harness.dueCompile("BEGIN " + Harness.repeat("PRINT 1", 126) + "END END", SYNTAX);
        Harness.dueCompile("BEGIN " + Harness.repeat("PRINT 1", 127) + "ELSE", SYNTAX);
    }

    private static void bodies() {
        String[] right = {"", "VAR a", "VAR a VAR b", "PRINT 1", "LABEL a", "VAR a PRINT 1", "PROC b BEGIN END", "VAR a PROC b BEGIN END VAR c",
            "PROC b BEGIN END LABEL a", "LABEL a LABEL b PRINT 1 LABEL c"};
        String[] wrong = {"PRINT 1 VAR a", "LABEL a VAR b", "PRINT 1 PROC b BEGIN END", "LABEL a PROC b BEGIN END",
            "VAR a PRINT 1 VAR b", "IF 1 FI VAR a", "PVAL a", "PPROC a", "VAR a PVAL b", "BEGIN END", "DONE", "FI", "ELSE", "1", "REF a", "ARGV 1",
            "VAR a ARGV REF a", "PROC b BEGIN END ARGP b", "PRINT 1 DONE", "ADD 1 2"};
        for (String body : right) {
            Harness.dueCompile("BEGIN " + body + " END", OK);
            Harness.dueCompile("BEGIN PROC p BEGIN " + body + " END END", OK);
        }
        for (String body : wrong) {
            Harness.dueCompile("BEGIN " + body + " END", SYNTAX);
            Harness.dueCompile("BEGIN PROC p BEGIN " + body + " END END", SYNTAX);
        }
    }

    private static void declarations() {
        String[] right = {"VAR a", "PROC a BEGIN END", "PROC a PVAL b BEGIN END", "PROC a PPROC b BEGIN END",
            "PROC a PVAL b PVAL c PPROC d PPROC e BEGIN END", "PROC a BEGIN PROC b BEGIN END END"};
        String[] wrong = {"PROC a", "PROC a END", "PROC a BEGIN", "PROC a PVAL b", "PROC a PVAL b END", "PROC a VAR b BEGIN END",
            "PROC a BEGIN PVAL b END", "PROC a BEGIN END END", "PROC a PROC b BEGIN END", "PROC a PROC b BEGIN END BEGIN END",
            "PROC a BEGIN END PVAL b", "PROC a BEGIN BEGIN END END", "PROC a PRINT 1 BEGIN END", "PROC a ARGV 1 BEGIN END"};
        for (String decl : right) {
            Harness.dueCompile("BEGIN " + decl + " END", OK);
        }
        for (String decl : wrong) {
            Harness.dueCompile("BEGIN " + decl + " END", SYNTAX);
        }
    }

    private static void plainStatements() {
        String[] right = {"SET a 1", "PRINT 1", "GOTO l", "GOTO l PRINT 1", "PRINT 1 SET a 1"};
        String[] wrong = {"SET a", "SET a SET a 1", "SET a 1 2", "SET a GOTO l", "PRINT", "PRINT 1 2", "PRINT PRINT 1", "PRINT LABEL m",
            "GOTO l 1", "GOTO l REF a", "SET a DONE", "PRINT 1 DONE", "PRINT ARGV 1"};
        for (String statement : right) {
            Harness.dueCompile("BEGIN VAR a " + statement + " LABEL l END", OK);
        }
        for (String statement : wrong) {
            Harness.dueCompile("BEGIN VAR a " + statement + " LABEL l END", SYNTAX);
        }
    }

    private static void calls() {
        String start = "BEGIN PROC f BEGIN END CALL f ";
        Harness.dueCompile(start + "DONE END", OK);
        Harness.dueCompile(start + "ARGV 1 DONE END", OK);
        Harness.dueCompile(start + "ARGP f DONE END", OK);
        Harness.dueCompile(start + "ARGP f ARGV ADD 1 2 ARGP f DONE END", OK);
        Harness.dueCompile(start + Harness.repeat("ARGV 1", 124) + "DONE END", OK);
        Harness.dueCompile(start + Harness.repeat("ARGP f", 249) + "DONE END", OK);
        Harness.dueCompile(start + "END", SYNTAX);
        Harness.dueCompile(start + "END END", SYNTAX);
        Harness.dueCompile(start + "FI END", SYNTAX);
        Harness.dueCompile(start + "DONE DONE END", SYNTAX);
        Harness.dueCompile(start + "ARGV DONE END", SYNTAX);
        Harness.dueCompile(start + "ARGV 1 2 DONE END", SYNTAX);
        Harness.dueCompile(start + "ARGV ARGV 1 DONE END", SYNTAX);
        Harness.dueCompile(start + "ARGP f 1 DONE END", SYNTAX);
        Harness.dueCompile(start + "1 DONE END", SYNTAX);
        Harness.dueCompile(start + "CALL f DONE DONE END", SYNTAX);
        Harness.dueCompile(start + "PRINT 1 DONE END", SYNTAX);
        Harness.dueCompile(start + "ARGV CALL f DONE DONE END", SYNTAX);
        Harness.dueCompile(start + Harness.repeat("ARGV 1", 124) + "END", SYNTAX);
    }

    private static void ifs() {
        String[] right = {"IF 1 FI", "IF 1 ELSE FI", "IF 1 PRINT 1 FI", "IF 1 PRINT 1 ELSE FI", "IF 1 ELSE PRINT 1 FI",
            "IF 1 PRINT 1 PRINT 2 ELSE PRINT 3 PRINT 4 FI", "IF 1 IF 1 ELSE FI FI", "IF 1 IF 1 FI ELSE IF 1 ELSE FI FI", "IF 1 FI IF 1 FI"};
        String[] wrong = {"IF FI", "IF 1", "IF ELSE FI", "IF 1 ELSE", "IF 1 2 FI", "IF 1 ELSE ELSE FI", "IF 1 FI FI", "IF 1 FI ELSE FI",
            "IF 1 ELSE FI ELSE FI", "IF 1 IF 1 FI", "IF 1 IF 1 ELSE FI ELSE", "ELSE FI", "IF 1 DONE FI", "IF PRINT 1 FI", "IF 1 VAR a FI",
            "IF 1 ELSE VAR a FI", "IF 1 PROC a BEGIN END FI", "IF 1 BEGIN END FI", "IF 1 END FI", "IF 1 END", "IF 1 ELSE END", "IF 1 PRINT 1 END", "IF 1 DONE", "IF 1 ELSE DONE"};
        for (String statement : right) {
            Harness.dueCompile("BEGIN " + statement + " END", OK);
        }
        for (String statement : wrong) {
            Harness.dueCompile("BEGIN " + statement + " END", SYNTAX);
        }
        Harness.dueCompile("BEGIN " + Harness.repeat("IF 1", 84) + Harness.repeat("FI", 84) + "END", OK);
        Harness.dueCompile("BEGIN " + Harness.repeat("IF 1", 84) + Harness.repeat("FI", 83) + "END", SYNTAX);
        Harness.dueCompile("BEGIN " + Harness.repeat("IF 1", 63) + Harness.repeat("ELSE FI", 63) + "END", OK);
    }

    private static void expressions() {
        for (String op : OPERATORS) {
            Harness.dueCompile("BEGIN VAR a PRINT " + op + " 1 REF a END", OK);
            Harness.dueCompile("BEGIN PRINT " + op + " END", SYNTAX);
            Harness.dueCompile("BEGIN PRINT " + op + " 1 END", SYNTAX);
            Harness.dueCompile("BEGIN PRINT " + op + " 1 2 3 END", SYNTAX);
            Harness.dueCompile("BEGIN PRINT 1 " + op + " 2 END", SYNTAX);
            Harness.dueCompile("BEGIN " + op + " 1 2 END", SYNTAX);
            Harness.dueCompile("BEGIN PRINT " + op + " " + op + " 1 2 END", SYNTAX);
            Harness.dueCompile("BEGIN PRINT " + op + " " + op + " 1 2 " + op + " 3 4 END", OK);
            Harness.dueCompile("BEGIN PRINT " + Harness.repeat(op, 126) + Harness.repeat("1", 127) + "END", OK);
            Harness.dueCompile("BEGIN PRINT " + Harness.repeat(op, 126) + Harness.repeat("1", 126) + "END", SYNTAX);
            Harness.dueCompile("BEGIN PRINT " + Harness.repeat(op + " 1", 126) + "1 END", OK);
        }
        Harness.dueCompile("BEGIN PRINT 1 END", OK);
        Harness.dueCompile("BEGIN VAR a PRINT REF a END", OK);
        Harness.dueCompile("BEGIN VAR a PRINT REF a REF a END", SYNTAX);
    }

    private static void labels() {
        Harness.dueCompile("BEGIN LABEL a END", OK);
        Harness.dueCompile("BEGIN PRINT 1 LABEL a PRINT 2 LABEL b END", OK);
        Harness.dueCompile("BEGIN PROC p BEGIN LABEL a END LABEL a END", OK);
        Harness.dueCompile("BEGIN IF 1 FI LABEL a IF 1 ELSE FI LABEL b END", OK);
        String[] inside = {"IF 1 LABEL a FI", "IF 1 PRINT 1 LABEL a FI", "IF 1 LABEL a PRINT 1 FI", "IF 1 LABEL a ELSE FI",
            "IF 1 ELSE LABEL a FI", "IF 1 ELSE PRINT 1 LABEL a FI", "IF 1 IF 1 FI LABEL a FI", "IF 1 IF 1 LABEL a FI FI", "IF LABEL a 1 FI"};
        for (String statement : inside) {
            Harness.dueCompile("BEGIN " + statement + " END", SYNTAX);
            Harness.dueCompile("BEGIN PROC p BEGIN " + statement + " END END", SYNTAX);
        }
    }
}
