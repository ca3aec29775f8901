/** Promise 2: which tokens are taken, and what a refused one leaves. */
public final class Promise02TokensTest {
    private static final int[] WRONG_NAMES = {Integer.MIN_VALUE, -1, 16, 17, 256, Integer.MAX_VALUE};

    public static void main(String[] args) {
        kinds();
        names();
        numbersAreKept();
        fullProgram();
        otherStatuses();
        appendingAfterFailedCompile();
        Harness.finish();
    }

    private static void dueToken(NonLocalJump x, int kind, int value, boolean taken) {
        int before = x.tokenCount();
        int status = x.status();
        String what = "token(" + kind + ", " + value + ")";
        Harness.due(what, x.token(kind, value), taken);
        Harness.due("tokenCount() after " + what, x.tokenCount(), taken ? before + 1 : before);
        Harness.due("status() after " + what, x.status(), status);
    }

    private static void kinds() {
        NonLocalJump x = new NonLocalJump(3);
        for (int kind : new int[] {Integer.MIN_VALUE, -1, 0, 27, 28, 256, Integer.MAX_VALUE}) {
            dueToken(x, kind, 0, false);
        }
        for (int kind = 1; kind <= 26; kind++) {
            dueToken(x, kind, 0, true);
        }
    }

    private static void names() {
        NonLocalJump x = new NonLocalJump(3);
        for (int kind = 1; kind <= 26; kind++) {
            for (int value : WRONG_NAMES) {
                if (x.tokenCount() > 200) {
                    x.reset();
                }
                dueToken(x, kind, value, !Harness.carriesName(kind));
            }
        }
        x.reset();
        for (int kind = 1; kind <= 26; kind++) {
            if (Harness.carriesName(kind)) {
                for (int name = 0; name < 16; name++) {
                    dueToken(x, kind, name, true);
                }
            }
            if (x.tokenCount() > 200) {
                x.reset();
            }
        }
    }

    private static void numbersAreKept() {
        for (int value : new int[] {Integer.MIN_VALUE, -1, 0, 15, 16, 70000, Integer.MAX_VALUE}) {
            Harness.duePrints("BEGIN PRINT NUM " + value + " END", value);
        }
        NonLocalJump x = new NonLocalJump(3);
        dueToken(x, NonLocalJump.K_BEGIN, -5, true);
        dueToken(x, NonLocalJump.K_PRINT, 99, true);
        dueToken(x, NonLocalJump.K_ADD, Integer.MAX_VALUE, true);
        dueToken(x, NonLocalJump.K_NUM, 5, true);
        dueToken(x, NonLocalJump.K_NUM, 6, true);
        dueToken(x, NonLocalJump.K_END, Integer.MIN_VALUE, true);
        Harness.due("compile() with values that are ignored", x.compile(), NonLocalJump.C_OK);
        x.run(9);
        Harness.dueOutput("values that are ignored", x, 11);
    }

    private static void fullProgram() {
        NonLocalJump x = new NonLocalJump(3);
        dueToken(x, NonLocalJump.K_BEGIN, 0, true);
        for (int i = 0; i < 127; i++) {
            dueToken(x, NonLocalJump.K_PRINT, 0, true);
            dueToken(x, NonLocalJump.K_NUM, i, true);
        }
        dueToken(x, NonLocalJump.K_END, 0, true);
        Harness.due("a full object: tokenCount()", x.tokenCount(), 256);
        dueToken(x, NonLocalJump.K_END, 0, false);
        dueToken(x, NonLocalJump.K_NUM, 1, false);
        dueToken(x, 0, 0, false);
        Harness.due("a full object: compile()", x.compile(), NonLocalJump.C_OK);
        Harness.due("a full object: run(5)", x.run(5), NonLocalJump.S_RUNNING);
        Harness.dueOutput("a full object", x, 0, 1, 2, 3, 4);
    }

    private static void otherStatuses() {
        NonLocalJump x = Harness.compiled("BEGIN VAR a SET a 4 PRINT REF a END");
        dueToken(x, NonLocalJump.K_END, 0, false);
        x.run(1);
        dueToken(x, NonLocalJump.K_NUM, 0, false);
        Harness.dueState("refused while running", x, NonLocalJump.S_RUNNING, NonLocalJump.T_NONE, 1, 0);
        Harness.due("refused while running: mainVar(0)", x.mainVar(0), 4);
        x.run(1);
        dueToken(x, NonLocalJump.K_NUM, 0, false);
        Harness.dueOutput("refused when done", x, 4);
        NonLocalJump y = Harness.compiled("BEGIN PRINT DIV 1 0 END");
        y.run(1);
        dueToken(y, NonLocalJump.K_NUM, 0, false);
        Harness.dueState("refused after a trap", y, NonLocalJump.S_TRAP, NonLocalJump.T_DIV, 1, 0);
        y.reset();
        dueToken(y, NonLocalJump.K_NUM, 0, true);
    }

    private static void appendingAfterFailedCompile() {
        NonLocalJump x = Harness.feed(new NonLocalJump(1), "BEGIN PRINT 8");
        Harness.due("compile() without END", x.compile(), NonLocalJump.C_SYNTAX);
        dueToken(x, NonLocalJump.K_END, 0, true);
        Harness.due("compile() with END", x.compile(), NonLocalJump.C_OK);
    }
}
