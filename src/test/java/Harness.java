import java.util.ArrayList;
import java.util.List;

/** What the tests share: programs as text, due answers, and the exit code. */
final class Harness {
    private static final String[] KINDS = {
        "", "BEGIN", "END", "VAR", "PROC", "PVAL", "PPROC", "SET", "PRINT", "GOTO", "LABEL", "CALL", "ARGV", "ARGP",
        "DONE", "IF", "ELSE", "FI", "NUM", "REF", "ADD", "SUB", "MUL", "DIV", "MOD", "LT", "EQ"};

    private static final int MOST_SHOWN = 40;
    private static final String[] LIVES = {"fed", "running", "done", "trapped"};
    // Three levels of f, each inside an IF; the innermost divides by the last number.
    private static final String LIFE = "BEGIN VAR a VAR b PROC f PVAL c BEGIN VAR d SET d MUL REF c 10 SET a ADD REF a REF c "
        + "PRINT REF d IF LT REF c 3 CALL f ARGV ADD REF c 1 DONE PRINT REF d ELSE SET b DIV REF b %d FI END "
        + "SET b 40 CALL f ARGV 1 DONE PRINT REF b LABEL l END";
    // What such objects answer, by their status; every other output, main variable and seen name is 0.
    private static final int LIFE_TOKENS = 46;
    private static final int[] LIFE_TRAP = {0, 0, 0, 1};
    private static final int[] LIFE_EXECUTED = {0, 9, 21, 17};
    private static final int[] LIFE_DEPTH = {0, 2, 0, 3};
    private static final int[][] LIFE_OUTPUT = {{}, {10}, {10, 20, 30, 20, 10, 40}, {10, 20, 30}};
    private static final int[][] LIFE_MAIN = {{}, {3, 40}, {6, 40}, {6, 40}};
    private static final int[][] LIFE_SEEN = {{}, {3, 40, 2, 20}, {}, {}};
    private static final String ENDLESS_RECURSION = "BEGIN PROC f BEGIN CALL f DONE END CALL f DONE END";

    private static int wrong = 0;
    private static int asked = 0;
    private static int sentences = 0;
    private static String sentence = "";

    private Harness() { }

    static void due(String what, long got, long want) {
        asked++;
        if (got != want) {
            wrong++;
            if (wrong <= MOST_SHOWN) {
                System.out.println(what + " answered " + got + ", due is " + want + sentence);
            }
        }
    }

    static void due(String what, boolean got, boolean want) {
        due(what, got ? 1 : 0, want ? 1 : 0);
    }

    /** Runs the test of one sentence of the document, and tells the sentence if it does not hold. */
    static void sentence(String words, Runnable test) {
        int askedBefore = asked;
        int wrongBefore = wrong;
        sentences++;
        sentence = " [" + words + "]";
        try {
            test.run();
        } catch (RuntimeException thrown) {
            thrown.printStackTrace(System.out);
            wrong++;
        }
        due("the test asks for something", asked > askedBefore, true);
        sentence = "";
        if (wrong > wrongBefore) {
            System.out.println("DOES NOT HOLD: " + words);
        }
    }

    static void finish() {
        if (sentences > 0) {
            System.out.println(sentences + " sentences");
        }
        System.out.println(asked + " answers looked at, " + wrong + " not as due");
        if (wrong != 0) {
            System.exit(1);
        }
    }

    static boolean carriesName(int kind) {
        return kind >= 3 && kind <= 7 || kind >= 9 && kind <= 11 || kind == 13 || kind == 19;
    }

    /** Reads kinds without K_, names as a..p, numbers after NUM; a number alone means NUM and itself. */
    static List<int[]> tokens(String text) {
        List<int[]> tokens = new ArrayList<>();
        String[] words = text.trim().split("\\s+");
        for (int i = 0; i < words.length; i++) {
            if (words[i].isEmpty()) {
                continue;
            }
            int kind = kindOf(words[i]);
            if (kind == 0) {
                tokens.add(new int[] {18, Integer.parseInt(words[i])});
            } else if (carriesName(kind)) {
                i++;
                tokens.add(new int[] {kind, words[i].charAt(0) - 'a'});
            } else if (kind == 18) {
                i++;
                tokens.add(new int[] {kind, Integer.parseInt(words[i])});
            } else {
                tokens.add(new int[] {kind, 0});
            }
        }
        return tokens;
    }

    private static int kindOf(String word) {
        for (int kind = 1; kind < KINDS.length; kind++) {
            if (KINDS[kind].equals(word)) {
                return kind;
            }
        }
        return 0;
    }

    static String text(List<int[]> tokens) {
        StringBuilder text = new StringBuilder();
        for (int[] token : tokens) {
            text.append(KINDS[token[0]]).append(' ');
            if (carriesName(token[0])) {
                text.append((char) ('a' + token[1])).append(' ');
            } else if (token[0] == 18) {
                text.append(token[1]).append(' ');
            }
        }
        return text.toString().trim();
    }

    static NonLocalJump feed(NonLocalJump x, List<int[]> tokens) {
        for (int[] token : tokens) {
            if (!x.token(token[0], token[1])) {
                due("token(" + token[0] + ", " + token[1] + ")", false, true);
            }
        }
        return x;
    }

    static NonLocalJump feed(NonLocalJump x, String program) {
        return feed(x, tokens(program));
    }

    /** A new object with the greatest depth limit, the program compiled. */
    static NonLocalJump compiled(String program) {
        return compiled(16, program);
    }

    static NonLocalJump compiled(int depthLimit, String program) {
        NonLocalJump x = feed(new NonLocalJump(depthLimit), program);
        due("compile() of " + program, x.compile(), NonLocalJump.C_OK);
        return x;
    }

    static void dueCompile(String program, int want) {
        NonLocalJump x = feed(new NonLocalJump(16), program);
        int count = x.tokenCount();
        due("compile() of " + program, x.compile(), want);
        due("status() after compile of " + program, x.status(),
            want == NonLocalJump.C_OK ? NonLocalJump.S_RUNNING : NonLocalJump.S_EDIT);
        due("tokenCount() after compile of " + program, x.tokenCount(), count);
    }

    static void dueOutput(String what, NonLocalJump x, int... want) {
        due(what + ": outputCount()", x.outputCount(), want.length);
        for (int i = 0; i < want.length; i++) {
            due(what + ": output(" + i + ")", x.output(i), want[i]);
        }
    }

    static void dueState(String what, NonLocalJump x, int status, int trap, int executed, int depth) {
        due(what + ": status()", x.status(), status);
        due(what + ": trap()", x.trap(), trap);
        due(what + ": executed()", x.executed(), executed);
        due(what + ": depth()", x.depth(), depth);
    }

    /** Wants x to answer as y does, whatever is asked. */
    static void dueSame(String what, NonLocalJump x, NonLocalJump y) {
        dueState(what, x, y.status(), y.trap(), y.executed(), y.depth());
        due(what + ": tokenCount()", x.tokenCount(), y.tokenCount());
        due(what + ": outputCount()", x.outputCount(), y.outputCount());
        for (int i = -1; i <= 33; i++) {
            due(what + ": output(" + i + ")", x.output(i), y.output(i));
        }
        for (int name = -1; name <= 16; name++) {
            due(what + ": mainVar(" + name + ")", x.mainVar(name), y.mainVar(name));
            due(what + ": seen(" + name + ")", x.seen(name), y.seen(name));
        }
    }

    /** An object in the middle of its life: with tokens, running two calls deep, done, or trapped three calls deep. */
    static NonLocalJump inStatus(int status, int depthLimit) {
        NonLocalJump x = feed(new NonLocalJump(depthLimit), String.format(LIFE, status == NonLocalJump.S_TRAP ? 0 : 1));
        if (status != NonLocalJump.S_EDIT) {
            x.compile();
            x.run(status == NonLocalJump.S_RUNNING ? 9 : 256);
        }
        due("an object " + LIVES[status] + ": status()", x.status(), status);
        return x;
    }

    /** Wants an object that inStatus made to answer as it has to, so that a first reading that spoils it is found. */
    static void dueLife(String what, NonLocalJump x, int status) {
        dueState(what, x, status, LIFE_TRAP[status], LIFE_EXECUTED[status], LIFE_DEPTH[status]);
        due(what + ": tokenCount()", x.tokenCount(), LIFE_TOKENS);
        due(what + ": outputCount()", x.outputCount(), LIFE_OUTPUT[status].length);
        for (int i = -2; i < 40; i++) {
            due(what + ": output(" + i + ")", x.output(i), at(LIFE_OUTPUT[status], i));
            due(what + ": mainVar(" + i + ")", x.mainVar(i), at(LIFE_MAIN[status], i));
            due(what + ": seen(" + i + ")", x.seen(i), at(LIFE_SEEN[status], i));
        }
    }

    private static int at(int[] values, int i) {
        return i >= 0 && i < values.length ? values[i] : 0;
    }

    /** Wants x to answer as y does now and at all that follows, to the depth limit that a reset leaves. */
    static void dueTwins(String what, NonLocalJump x, NonLocalJump y) {
        dueSame(what, x, y);
        due(what + ", further: compile()", x.compile(), y.compile());
        for (int i = 0; i < 40; i++) {
            dueSame(what + ", further", x, y);
            due(what + ", further: run(1)", x.run(1), y.run(1));
        }
        x.reset();
        y.reset();
        due(what + ", then reset: depth limit", depthLimit(x), depthLimit(y));
    }

    /** The depth limit of an empty object; leaves it trapped. */
    static int depthLimit(NonLocalJump x) {
        feed(x, ENDLESS_RECURSION);
        x.compile();
        x.run(256);
        return x.depth();
    }

    /** Runs a program to its normal end in one call and looks at what it printed. */
    static void duePrints(String program, int... want) {
        NonLocalJump x = compiled(program);
        due("run(256) of " + program, x.run(256), NonLocalJump.S_DONE);
        dueOutput(program, x, want);
        due("depth() after " + program, x.depth(), 0);
        due("trap() after " + program, x.trap(), NonLocalJump.T_NONE);
    }

    static void dueTrap(String program, int trap, int executed, int depth) {
        NonLocalJump x = compiled(program);
        due("run(256) of " + program, x.run(256), NonLocalJump.S_TRAP);
        dueState(program, x, NonLocalJump.S_TRAP, trap, executed, depth);
    }

    static String repeat(String part, int times) {
        return (part + " ").repeat(times);
    }
}
