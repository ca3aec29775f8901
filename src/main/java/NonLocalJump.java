/** Holds a small block language with nested procedures and jumps out of them, and runs it in slices. */
public final class NonLocalJump {
    public static final int K_BEGIN = 1;
    public static final int K_END = 2;
    public static final int K_VAR = 3;
    public static final int K_PROC = 4;
    public static final int K_PVAL = 5;
    public static final int K_PPROC = 6;
    public static final int K_SET = 7;
    public static final int K_PRINT = 8;
    public static final int K_GOTO = 9;
    public static final int K_LABEL = 10;
    public static final int K_CALL = 11;
    public static final int K_ARGV = 12;
    public static final int K_ARGP = 13;
    public static final int K_DONE = 14;
    public static final int K_IF = 15;
    public static final int K_ELSE = 16;
    public static final int K_FI = 17;
    public static final int K_NUM = 18;
    public static final int K_REF = 19;
    public static final int K_ADD = 20;
    public static final int K_SUB = 21;
    public static final int K_MUL = 22;
    public static final int K_DIV = 23;
    public static final int K_MOD = 24;
    public static final int K_LT = 25;
    public static final int K_EQ = 26;

    public static final int C_REFUSED = -1;
    public static final int C_OK = 0;
    public static final int C_SYNTAX = 1;
    public static final int C_LIMIT = 2;
    public static final int C_NAME = 3;

    public static final int S_EDIT = 0;
    public static final int S_RUNNING = 1;
    public static final int S_DONE = 2;
    public static final int S_TRAP = 3;

    public static final int T_NONE = 0;
    public static final int T_DIV = 1;
    public static final int T_DEPTH = 2;
    public static final int T_ARGS = 3;
    public static final int T_OUTPUT = 4;

    public static final int MAX_TOKENS = 256;
    public static final int MAX_NAMES = 16;
    public static final int MAX_BODIES = 16;
    public static final int MAX_DECLS = 8;
    public static final int MAX_PARAMS = 4;
    public static final int MAX_OUTPUT = 32;
    public static final int MAX_FUEL = 256;
    public static final int MIN_DEPTH = 1;
    public static final int MAX_DEPTH = 16;

    // The parts of the grammar that the syntax check may be waiting for.
    private static final int WANT_PROGRAM = 1;
    private static final int WANT_PARAMS = 2;
    private static final int WANT_DECLS = 3;
    private static final int WANT_TOPS = 4;
    private static final int WANT_THEN = 5;
    private static final int WANT_ELSE = 6;
    private static final int WANT_ARGS = 7;
    private static final int WANT_EXPR = 8;

    // One entry to begin with, and no token pushes more than two (IF does).
    private static final int MAX_STACK = 1 + 2 * MAX_TOKENS;
    private static final int MAX_LIVE = MAX_DEPTH + 1;
    private static final int ALL_DECLS = MAX_BODIES * MAX_NAMES;
    private static final int ALL_PARAMS = MAX_BODIES * MAX_PARAMS;
    private static final int ALL_SLOTS = MAX_LIVE * MAX_NAMES;
    // Between two statements each live body is walked forward at most once.
    private static final int MAX_SETTLING = MAX_LIVE * MAX_TOKENS;

    private final int depthLimit;
    private int state;
    private int trapCode;
    private int begun;

    private final int[] tokenKind = new int[MAX_TOKENS];
    private final int[] tokenValue = new int[MAX_TOKENS];
    private int tokenTotal;

    private final int[] printed = new int[MAX_OUTPUT];
    private int printedTotal;

    // A stack in place of recursion: wants of the syntax check, later the open IFs.
    private final int[] stack = new int[MAX_STACK];
    private int stackSize;

    // Bodies. Body 0 is the main one and its own parent, so that going outward never leaves the table.
    private final int[] bodyParent = new int[MAX_BODIES];
    private final int[] bodyStart = new int[MAX_BODIES];
    private final int[] declCount = new int[MAX_BODIES];
    private final int[] paramCount = new int[MAX_BODIES];
    private final int[] paramName = new int[ALL_PARAMS];
    private int bodyCount;

    // Declarations, at body * MAX_NAMES + name. Kind 0 is no declaration. The target is the
    // procedure's body, the position after the label, or 0 for a variable.
    private final int[] declKind = new int[ALL_DECLS];
    private final int[] declTarget = new int[ALL_DECLS];
    private boolean declaredTwice;

    private final int[] tokenBody = new int[MAX_TOKENS];
    private final int[] branchTarget = new int[MAX_TOKENS];

    // Activations are a stack: 0 is the main one, liveDepth the newest.
    private final int[] liveBody = new int[MAX_LIVE];
    private final int[] liveParent = new int[MAX_LIVE];
    private final int[] returnTo = new int[MAX_LIVE];
    private int liveDepth;
    private int position;

    // Slots, at activation * MAX_NAMES + name. Variables hold their int. Procedures and labels
    // hold (target, activation), so that PROC and PPROC names are read alike.
    private final int[] slotValue = new int[ALL_SLOTS];
    private final int[] slotHome = new int[ALL_SLOTS];

    // Operators that wait for an operand, the outermost first.
    private final int[] waitingOp = new int[MAX_TOKENS];
    private final int[] waitingLeft = new int[MAX_TOKENS];
    private final boolean[] leftKnown = new boolean[MAX_TOKENS];

    private final int[] argKind = new int[MAX_PARAMS];
    private final int[] argValue = new int[MAX_PARAMS];
    private final int[] argHome = new int[MAX_PARAMS];

    public NonLocalJump(int depthLimit) {
        this.depthLimit = clamp(depthLimit, MIN_DEPTH, MAX_DEPTH);
    }

    public boolean token(int kind, int value) {
        if (state != S_EDIT || tokenTotal >= MAX_TOKENS) {
            return false;
        }
        if (kind < K_BEGIN || kind > K_EQ) {
            return false;
        }
        boolean named = carriesName(kind);
        if (named && !isName(value)) {
            return false;
        }
        tokenKind[tokenTotal] = kind;
        tokenValue[tokenTotal] = named || kind == K_NUM ? value : 0;
        tokenTotal++;
        return true;
    }

    public int tokenCount() {
        return tokenTotal;
    }

    public int compile() {
        if (state != S_EDIT) {
            return C_REFUSED;
        }
        if (!isProgram()) {
            return C_SYNTAX;
        }
        if (!layOutBodies()) {
            return C_LIMIT;
        }
        if (declaredTwice || !allUsesMatch()) {
            return C_NAME;
        }
        linkBranches();
        startMain();
        return C_OK;
    }

    public int run(int fuel) {
        if (state != S_RUNNING) {
            return state;
        }
        int fuelGiven = clamp(fuel, 1, MAX_FUEL);
        settle();
        for (int spent = 0; spent < fuelGiven && state == S_RUNNING; spent++) {
            doStatement();
            if (trapCode != T_NONE) {
                state = S_TRAP;
            }
            settle();
        }
        return state;
    }

    public int status() {
        return state;
    }

    public int trap() {
        return trapCode;
    }

    public int executed() {
        return begun;
    }

    public int depth() {
        return liveDepth;
    }

    public int outputCount() {
        return printedTotal;
    }

    public int output(int i) {
        return i >= 0 && i < printedTotal ? printed[i] : 0;
    }

    public int mainVar(int name) {
        if (state == S_EDIT || !isName(name)) {
            return 0;
        }
        // The main body and the main activation are both number 0, so the name alone is the index.
        return declKind[name] == K_VAR ? slotValue[name] : 0;
    }

    public int seen(int name) {
        if (state != S_RUNNING || !isName(name)) {
            return 0;
        }
        int kind = nearestKind(liveBody[liveDepth], name);
        int slot = slotOf(name);
        return kind == K_VAR || kind == K_PVAL ? slotValue[slot] : 0;
    }

    public void reset() {
        state = S_EDIT;
        tokenTotal = 0;
        clearRun();
    }

    private static int clamp(int value, int least, int most) {
        if (value < least) {
            return least;
        }
        return value > most ? most : value;
    }

    private static boolean isName(int value) {
        return value >= 0 && value < MAX_NAMES;
    }

    private static boolean carriesName(int kind) {
        switch (kind) {
            case K_VAR:
            case K_PROC:
            case K_PVAL:
            case K_PPROC:
            case K_SET:
            case K_GOTO:
            case K_LABEL:
            case K_CALL:
            case K_ARGP:
            case K_REF:
                return true;
            default:
                return false;
        }
    }

    private static boolean isOperator(int kind) {
        return kind >= K_ADD && kind <= K_EQ;
    }

    private boolean isProgram() {
        stackSize = 0;
        push(WANT_PROGRAM);
        for (int at = 0; at < tokenTotal; at++) {
            if (stackSize == 0) {
                return false;
            }
            int kind = tokenKind[at];
            int top = stackSize - 1;
            if (stack[top] == WANT_DECLS && kind != K_VAR && kind != K_PROC) {
                stack[top] = WANT_TOPS;
            }
            if (!fits(kind, stack[top])) {
                return false;
            }
            takeToken(kind);
        }
        return stackSize == 0;
    }

    private static boolean fits(int kind, int want) {
        switch (kind) {
            case K_BEGIN:
                return want == WANT_PROGRAM || want == WANT_PARAMS;
            case K_VAR:
            case K_PROC:
                return want == WANT_DECLS;
            case K_PVAL:
            case K_PPROC:
                return want == WANT_PARAMS;
            case K_LABEL:
            case K_END:
                return want == WANT_TOPS;
            case K_SET:
            case K_PRINT:
            case K_GOTO:
            case K_CALL:
            case K_IF:
                return want == WANT_TOPS || want == WANT_THEN || want == WANT_ELSE;
            case K_ELSE:
                return want == WANT_THEN;
            case K_FI:
                return want == WANT_THEN || want == WANT_ELSE;
            case K_ARGV:
            case K_ARGP:
            case K_DONE:
                return want == WANT_ARGS;
            default:
                return want == WANT_EXPR;
        }
    }

    private void takeToken(int kind) {
        switch (kind) {
            case K_BEGIN:
                stack[stackSize - 1] = WANT_DECLS;
                break;
            case K_ELSE:
                stack[stackSize - 1] = WANT_ELSE;
                break;
            case K_END:
            case K_FI:
            case K_DONE:
            case K_NUM:
            case K_REF:
                stackSize--;
                break;
            case K_PROC:
                push(WANT_PARAMS);
                break;
            case K_CALL:
                push(WANT_ARGS);
                break;
            case K_IF:
                push(WANT_THEN);
                push(WANT_EXPR);
                break;
            case K_VAR:
            case K_PVAL:
            case K_PPROC:
            case K_GOTO:
            case K_LABEL:
            case K_ARGP:
                break;
            default:
                // SET, PRINT and ARGV need one expression; an operator's own entry stays for its right operand.
                push(WANT_EXPR);
                break;
        }
    }

    private void push(int entry) {
        if (stackSize < MAX_STACK) {
            stack[stackSize] = entry;
            stackSize++;
        }
    }

    /** Answers false if the program has more of something than the limits allow. */
    private boolean layOutBodies() {
        clearBodies();
        int body = addBody(0);
        for (int at = 0; at < tokenTotal; at++) {
            tokenBody[at] = body;
            int kind = tokenKind[at];
            if (kind == K_PROC) {
                if (bodyCount == MAX_BODIES) {
                    return false;
                }
                declare(body, at, bodyCount);
                body = addBody(body);
            } else if (kind == K_END) {
                body = closeBody(body, at);
            } else {
                layOutToken(body, at);
            }
            // A PROC counts in the body around it, which is looked at again when the PROC ends.
            if (declCount[body] > MAX_DECLS || paramCount[body] > MAX_PARAMS) {
                return false;
            }
        }
        return true;
    }

    private void clearBodies() {
        bodyCount = 0;
        declaredTwice = false;
        for (int i = 0; i < ALL_DECLS; i++) {
            declKind[i] = 0;
            declTarget[i] = 0;
        }
    }

    private int addBody(int parent) {
        int body = bodyCount;
        bodyCount++;
        bodyParent[body] = parent;
        declCount[body] = 0;
        paramCount[body] = 0;
        return body;
    }

    private int closeBody(int body, int at) {
        if (body == 0) {
            return 0;
        }
        int outer = bodyParent[body];
        bodyStart[outer] = at + 1;
        return outer;
    }

    private void layOutToken(int body, int at) {
        switch (tokenKind[at]) {
            case K_BEGIN:
                bodyStart[body] = at + 1;
                break;
            case K_VAR:
                bodyStart[body] = at + 1;
                declare(body, at, 0);
                break;
            case K_LABEL:
                declare(body, at, at + 1);
                break;
            case K_PVAL:
            case K_PPROC:
                declare(body, at, 0);
                addParam(body, tokenValue[at]);
                break;
            default:
                break;
        }
    }

    private void declare(int body, int at, int target) {
        int decl = body * MAX_NAMES + tokenValue[at];
        if (declKind[decl] != 0) {
            declaredTwice = true;
        }
        declKind[decl] = tokenKind[at];
        declTarget[decl] = target;
        declCount[body]++;
    }

    private void addParam(int body, int name) {
        if (paramCount[body] < MAX_PARAMS) {
            paramName[body * MAX_PARAMS + paramCount[body]] = name;
        }
        paramCount[body]++;
    }

    private boolean allUsesMatch() {
        for (int at = 0; at < tokenTotal; at++) {
            int kind = tokenKind[at];
            if (carriesName(kind)) {
                int declared = nearestKind(tokenBody[at], tokenValue[at]);
                if (!matches(kind, declared)) {
                    return false;
                }
            }
        }
        return true;
    }

    private int nearestKind(int from, int name) {
        int body = from;
        for (int i = 0; i < MAX_BODIES && declKind[body * MAX_NAMES + name] == 0; i++) {
            body = bodyParent[body];
        }
        return declKind[body * MAX_NAMES + name];
    }

    private static boolean matches(int use, int declared) {
        switch (use) {
            case K_SET:
            case K_REF:
                return declared == K_VAR || declared == K_PVAL;
            case K_CALL:
            case K_ARGP:
                return declared == K_PROC || declared == K_PPROC;
            case K_GOTO:
                return declared == K_LABEL;
            default:
                return true;
        }
    }

    private void linkBranches() {
        stackSize = 0;
        for (int at = 0; at < tokenTotal; at++) {
            int kind = tokenKind[at];
            if (kind == K_IF) {
                push(at);
            } else if (stackSize > 0 && kind == K_ELSE) {
                branchTarget[stack[stackSize - 1]] = at + 1;
                stack[stackSize - 1] = at;
            } else if (stackSize > 0 && kind == K_FI) {
                branchTarget[stack[stackSize - 1]] = at + 1;
                stackSize--;
            }
        }
    }

    private void clearRun() {
        trapCode = T_NONE;
        begun = 0;
        printedTotal = 0;
        liveDepth = 0;
    }

    private void startMain() {
        clearRun();
        openActivation(0, 0);
        state = S_RUNNING;
    }

    private void openActivation(int body, int parent) {
        liveBody[liveDepth] = body;
        liveParent[liveDepth] = parent;
        for (int name = 0; name < MAX_NAMES; name++) {
            int slot = liveDepth * MAX_NAMES + name;
            slotValue[slot] = declTarget[body * MAX_NAMES + name];
            slotHome[slot] = liveDepth;
        }
        position = bodyStart[body];
    }

    /** Ends of branches and bodies cost nothing, so they are passed before the run may stop. */
    private void settle() {
        for (int i = 0; i < MAX_SETTLING && state == S_RUNNING; i++) {
            int kind = tokenKind[position];
            if (kind == K_END) {
                leaveBody();
            } else if (kind == K_ELSE) {
                position = branchTarget[position];
            } else if (kind == K_FI) {
                position++;
            } else {
                return;
            }
        }
    }

    private void leaveBody() {
        if (liveDepth == 0) {
            state = S_DONE;
        } else {
            position = returnTo[liveDepth];
            liveDepth--;
        }
    }

    private void doStatement() {
        int at = position;
        int name = tokenValue[at];
        begun++;
        position++;
        switch (tokenKind[at]) {
            case K_SET:
                doSet(name);
                break;
            case K_PRINT:
                doPrint();
                break;
            case K_GOTO:
                doGoto(name);
                break;
            case K_CALL:
                doCall(name);
                break;
            case K_IF:
                doIf(at);
                break;
            default:
                break;
        }
    }

    private void doSet(int name) {
        int value = evaluate();
        if (trapCode == T_NONE) {
            int slot = slotOf(name);
            slotValue[slot] = value;
        }
    }

    private void doPrint() {
        int value = evaluate();
        if (trapCode != T_NONE) {
            return;
        }
        if (printedTotal >= MAX_OUTPUT) {
            trapCode = T_OUTPUT;
        } else {
            printed[printedTotal] = value;
            printedTotal++;
        }
    }

    private void doGoto(int name) {
        int slot = slotOf(name);
        liveDepth = slotHome[slot];
        position = slotValue[slot];
    }

    private void doIf(int at) {
        int value = evaluate();
        if (trapCode == T_NONE && value == 0) {
            position = branchTarget[at];
        }
    }

    private void doCall(int name) {
        int slot = slotOf(name);
        int body = slotValue[slot];
        int home = slotHome[slot];
        int count = takeArguments();
        if (trapCode != T_NONE) {
            return;
        }
        if (!argumentsFit(body, count)) {
            trapCode = T_ARGS;
        } else if (liveDepth >= depthLimit) {
            trapCode = T_DEPTH;
        } else {
            liveDepth++;
            returnTo[liveDepth] = position;
            openActivation(body, home);
            bindParams(body);
        }
    }

    /** Answers the count of arguments; those beyond MAX_PARAMS fit no procedure, but may still trap. */
    private int takeArguments() {
        int count = 0;
        for (int i = 0; i < MAX_TOKENS && tokenKind[position] != K_DONE; i++) {
            int at = position;
            position++;
            if (tokenKind[at] == K_ARGP) {
                int slot = slotOf(tokenValue[at]);
                keepArgument(count, K_PPROC, slotValue[slot], slotHome[slot]);
            } else {
                int value = evaluate();
                keepArgument(count, K_PVAL, value, 0);
            }
            if (trapCode != T_NONE) {
                return count;
            }
            count++;
        }
        position++;
        return count;
    }

    private void keepArgument(int index, int kind, int value, int home) {
        if (index < MAX_PARAMS) {
            argKind[index] = kind;
            argValue[index] = value;
            argHome[index] = home;
        }
    }

    private boolean argumentsFit(int body, int count) {
        if (count != paramCount[body]) {
            return false;
        }
        for (int i = 0; i < count && i < MAX_PARAMS; i++) {
            int name = paramName[body * MAX_PARAMS + i];
            if (declKind[body * MAX_NAMES + name] != argKind[i]) {
                return false;
            }
        }
        return true;
    }

    private void bindParams(int body) {
        for (int i = 0; i < paramCount[body] && i < MAX_PARAMS; i++) {
            int slot = liveDepth * MAX_NAMES + paramName[body * MAX_PARAMS + i];
            slotValue[slot] = argValue[i];
            slotHome[slot] = argHome[i];
        }
    }

    /** The static parent of an activation is one of the enclosing body, so the nearest declaration is met first. */
    private int slotOf(int name) {
        int live = liveDepth;
        for (int i = 0; i < MAX_BODIES && declKind[liveBody[live] * MAX_NAMES + name] == 0; i++) {
            live = liveParent[live];
        }
        return live * MAX_NAMES + name;
    }

    /** Reads one expression from the position on and leaves the position after it, unless it traps. */
    private int evaluate() {
        int waiting = 0;
        for (int i = 0; i < MAX_TOKENS; i++) {
            int kind = tokenKind[position];
            int value = tokenValue[position];
            position++;
            if (isOperator(kind)) {
                waitingOp[waiting] = kind;
                leftKnown[waiting] = false;
                waiting++;
                continue;
            }
            if (kind == K_REF) {
                int slot = slotOf(value);
                value = slotValue[slot];
            }
            for (; waiting > 0 && leftKnown[waiting - 1] && trapCode == T_NONE; waiting--) {
                value = apply(waitingOp[waiting - 1], waitingLeft[waiting - 1], value);
            }
            if (waiting == 0 || trapCode != T_NONE) {
                return value;
            }
            waitingLeft[waiting - 1] = value;
            leftKnown[waiting - 1] = true;
        }
        return 0;
    }

    private int apply(int op, int left, int right) {
        switch (op) {
            case K_ADD:
                return left + right;
            case K_SUB:
                return left - right;
            case K_MUL:
                return left * right;
            case K_LT:
                return left < right ? 1 : 0;
            case K_EQ:
                return left == right ? 1 : 0;
            default:
                break;
        }
        if (right == 0) {
            trapCode = T_DIV;
            return 0;
        }
        return op == K_DIV ? left / right : left % right;
    }
}
