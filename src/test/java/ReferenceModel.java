import java.util.ArrayList;
import java.util.HashMap;
import java.util.List;
import java.util.Map;

/**
 * The document once more, as a tree that is walked by recursion, with exceptions for jumps and stops.
 * It shares nothing with the class but the numbers of the constants.
 */
final class ReferenceModel {
    private static final class Decl {
        final int kind;
        final int name;
        Body procedure;
        int topIndex;

        Decl(int kind, int name) {
            this.kind = kind;
            this.name = name;
        }
    }

    private static final class Body {
        final Body outer;
        final List<Decl> decls = new ArrayList<>();
        final List<Decl> params = new ArrayList<>();
        final List<Node> tops = new ArrayList<>();

        Body(Body outer) {
            this.outer = outer;
        }
    }

    private static final class Node {
        final int kind;
        final int value;
        final List<Node> parts = new ArrayList<>();
        final List<Node> thenPart = new ArrayList<>();
        final List<Node> elsePart = new ArrayList<>();

        Node(int kind, int value) {
            this.kind = kind;
            this.value = value;
        }
    }

    private static final class Activation {
        final Body body;
        final Activation parent;
        final Map<Integer, Integer> variables = new HashMap<>();
        final Map<Integer, ProcedureValue> procedures = new HashMap<>();

        Activation(Body body, Activation parent) {
            this.body = body;
            this.parent = parent;
            for (Decl decl : body.decls) {
                if (decl.kind == NonLocalJump.K_VAR) {
                    variables.put(decl.name, 0);
                }
            }
        }
    }

    private static final class ProcedureValue {
        final Body procedure;
        final Activation home;

        ProcedureValue(Body procedure, Activation home) {
            this.procedure = procedure;
            this.home = home;
        }
    }

    private static class Signal extends RuntimeException {
        private static final long serialVersionUID = 1L;

        Signal() {
            super(null, null, false, false);
        }
    }

    private static final class Wrong extends Signal {
        private static final long serialVersionUID = 1L;
    }

    private static final class Stop extends Signal {
        private static final long serialVersionUID = 1L;
    }

    private static final class Jump extends Signal {
        private static final long serialVersionUID = 1L;
        private final transient Activation target;
        private final int topIndex;

        Jump(Activation target, int topIndex) {
            this.target = target;
            this.topIndex = topIndex;
        }
    }

    private final int depthLimit;
    private final List<int[]> tokens;
    private int next;
    private final List<Body> bodies = new ArrayList<>();
    private Body mainBody;

    int status = NonLocalJump.S_EDIT;
    int trap;
    int executed;
    final List<Integer> output = new ArrayList<>();
    private final List<Activation> live = new ArrayList<>();
    private int fuel;

    ReferenceModel(int depthLimit, List<int[]> tokens) {
        this.depthLimit = Math.max(1, Math.min(16, depthLimit));
        this.tokens = tokens;
    }

    int compile() {
        try {
            parseProgram();
        } catch (Wrong wrong) {
            return NonLocalJump.C_SYNTAX;
        }
        if (bodies.size() > 16) {
            return NonLocalJump.C_LIMIT;
        }
        for (Body body : bodies) {
            if (body.decls.size() > 8 || body.params.size() > 4) {
                return NonLocalJump.C_LIMIT;
            }
        }
        for (Body body : bodies) {
            for (Decl decl : body.decls) {
                if (own(body, decl.name) != decl) {
                    return NonLocalJump.C_NAME;
                }
            }
            if (!namesFit(body, body.tops)) {
                return NonLocalJump.C_NAME;
            }
        }
        return NonLocalJump.C_OK;
    }

    /** Runs the compiled program from its start with so much fuel in all; 0 is no run call at all. */
    void runFromStart(int allFuel) {
        status = NonLocalJump.S_RUNNING;
        trap = 0;
        executed = 0;
        output.clear();
        live.clear();
        live.add(new Activation(mainBody, null));
        fuel = allFuel;
        if (allFuel == 0) {
            return;
        }
        try {
            runBody(live.get(0));
            status = NonLocalJump.S_DONE;
        } catch (Stop stop) {
            status = trap == 0 ? NonLocalJump.S_RUNNING : NonLocalJump.S_TRAP;
        }
    }

    int depth() {
        return live.size() - 1;
    }

    int mainVar(int name) {
        Integer value = live.get(0).variables.get(name);
        return value == null ? 0 : value;
    }

    int seen(int name) {
        Activation newest = live.get(live.size() - 1);
        Decl decl = nearest(newest.body, name);
        if (status != NonLocalJump.S_RUNNING || decl == null || !isVariable(decl)) {
            return 0;
        }
        return find(newest, name).variables.get(name);
    }

    private int kind() {
        return next < tokens.size() ? tokens.get(next)[0] : 0;
    }

    private int take(int kind) {
        if (kind() != kind) {
            throw new Wrong();
        }
        next++;
        return tokens.get(next - 1)[1];
    }

    private void parseProgram() {
        next = 0;
        mainBody = new Body(null);
        parseBody(mainBody);
        if (next != tokens.size()) {
            throw new Wrong();
        }
    }

    private void parseBody(Body body) {
        bodies.add(body);
        take(NonLocalJump.K_BEGIN);
        while (kind() == NonLocalJump.K_VAR || kind() == NonLocalJump.K_PROC) {
            Decl decl = new Decl(kind(), take(kind()));
            body.decls.add(decl);
            if (decl.kind == NonLocalJump.K_PROC) {
                decl.procedure = new Body(body);
                parseParams(decl.procedure);
                parseBody(decl.procedure);
            }
        }
        while (kind() != NonLocalJump.K_END) {
            if (kind() == NonLocalJump.K_LABEL) {
                Node label = new Node(NonLocalJump.K_LABEL, take(NonLocalJump.K_LABEL));
                Decl decl = new Decl(NonLocalJump.K_LABEL, label.value);
                decl.topIndex = body.tops.size();
                body.decls.add(decl);
                body.tops.add(label);
            } else {
                body.tops.add(parseStatement());
            }
        }
        take(NonLocalJump.K_END);
    }

    private void parseParams(Body body) {
        while (kind() == NonLocalJump.K_PVAL || kind() == NonLocalJump.K_PPROC) {
            Decl decl = new Decl(kind(), take(kind()));
            body.decls.add(decl);
            body.params.add(decl);
        }
    }

    private Node parseStatement() {
        int kind = kind();
        if (kind != NonLocalJump.K_SET && kind != NonLocalJump.K_PRINT && kind != NonLocalJump.K_GOTO
            && kind != NonLocalJump.K_CALL && kind != NonLocalJump.K_IF) {
            throw new Wrong();
        }
        Node node = new Node(kind, take(kind));
        if (kind == NonLocalJump.K_SET || kind == NonLocalJump.K_PRINT) {
            node.parts.add(parseExpression());
        } else if (kind == NonLocalJump.K_CALL) {
            parseArguments(node);
        } else if (kind == NonLocalJump.K_IF) {
            node.parts.add(parseExpression());
            while (kind() != NonLocalJump.K_ELSE && kind() != NonLocalJump.K_FI) {
                node.thenPart.add(parseStatement());
            }
            if (kind() == NonLocalJump.K_ELSE) {
                take(NonLocalJump.K_ELSE);
                while (kind() != NonLocalJump.K_FI) {
                    node.elsePart.add(parseStatement());
                }
            }
            take(NonLocalJump.K_FI);
        }
        return node;
    }

    private void parseArguments(Node call) {
        while (kind() != NonLocalJump.K_DONE) {
            if (kind() == NonLocalJump.K_ARGP) {
                call.parts.add(new Node(NonLocalJump.K_ARGP, take(NonLocalJump.K_ARGP)));
            } else {
                take(NonLocalJump.K_ARGV);
                Node argument = new Node(NonLocalJump.K_ARGV, 0);
                argument.parts.add(parseExpression());
                call.parts.add(argument);
            }
        }
        take(NonLocalJump.K_DONE);
    }

    private Node parseExpression() {
        int kind = kind();
        if (kind < NonLocalJump.K_NUM) {
            throw new Wrong();
        }
        Node node = new Node(kind, take(kind));
        if (kind >= NonLocalJump.K_ADD) {
            node.parts.add(parseExpression());
            node.parts.add(parseExpression());
        }
        return node;
    }

    private static Decl own(Body body, int name) {
        Decl found = null;
        for (Decl decl : body.decls) {
            if (decl.name == name) {
                found = decl;
            }
        }
        return found;
    }

    private static Decl nearest(Body body, int name) {
        Decl decl = own(body, name);
        return decl != null || body.outer == null ? decl : nearest(body.outer, name);
    }

    private static boolean isVariable(Decl decl) {
        return decl.kind == NonLocalJump.K_VAR || decl.kind == NonLocalJump.K_PVAL;
    }

    private static boolean isProcedure(Decl decl) {
        return decl.kind == NonLocalJump.K_PROC || decl.kind == NonLocalJump.K_PPROC;
    }

    private static boolean namesFit(Body body, List<Node> nodes) {
        for (Node node : nodes) {
            Decl decl = nearest(body, node.value);
            boolean variable = node.kind == NonLocalJump.K_SET || node.kind == NonLocalJump.K_REF;
            boolean procedure = node.kind == NonLocalJump.K_CALL || node.kind == NonLocalJump.K_ARGP;
            if (variable && (decl == null || !isVariable(decl))
                || procedure && (decl == null || !isProcedure(decl))
                || node.kind == NonLocalJump.K_GOTO && (decl == null || decl.kind != NonLocalJump.K_LABEL)) {
                return false;
            }
            if (!namesFit(body, node.parts) || !namesFit(body, node.thenPart) || !namesFit(body, node.elsePart)) {
                return false;
            }
        }
        return true;
    }

    private static Activation find(Activation from, int name) {
        Decl decl = nearest(from.body, name);
        Activation at = from;
        while (own(at.body, name) != decl) {
            at = at.parent;
        }
        return at;
    }

    private static ProcedureValue procedureValue(Activation from, int name) {
        Decl decl = nearest(from.body, name);
        Activation home = find(from, name);
        return decl.kind == NonLocalJump.K_PROC ? new ProcedureValue(decl.procedure, home) : home.procedures.get(name);
    }

    private void runBody(Activation self) {
        int at = 0;
        while (at < self.body.tops.size()) {
            try {
                runStatement(self, self.body.tops.get(at));
                at++;
            } catch (Jump jump) {
                if (jump.target != self) {
                    throw jump;
                }
                while (live.get(live.size() - 1) != self) {
                    live.remove(live.size() - 1);
                }
                at = jump.topIndex + 1;
            }
        }
    }

    private Stop trapped(int code) {
        trap = code;
        return new Stop();
    }

    private void runStatement(Activation self, Node node) {
        if (fuel == 0) {
            throw new Stop();
        }
        fuel--;
        executed++;
        if (node.kind == NonLocalJump.K_SET) {
            int value = evaluate(self, node.parts.get(0));
            find(self, node.value).variables.put(node.value, value);
        } else if (node.kind == NonLocalJump.K_PRINT) {
            int value = evaluate(self, node.parts.get(0));
            if (output.size() == 32) {
                throw trapped(NonLocalJump.T_OUTPUT);
            }
            output.add(value);
        } else if (node.kind == NonLocalJump.K_IF) {
            for (Node inner : evaluate(self, node.parts.get(0)) != 0 ? node.thenPart : node.elsePart) {
                runStatement(self, inner);
            }
        } else if (node.kind == NonLocalJump.K_GOTO) {
            throw new Jump(find(self, node.value), nearest(self.body, node.value).topIndex);
        } else if (node.kind == NonLocalJump.K_CALL) {
            call(self, node);
        }
    }

    private void call(Activation self, Node node) {
        ProcedureValue callee = procedureValue(self, node.value);
        List<Object> given = new ArrayList<>();
        for (Node argument : node.parts) {
            boolean byValue = argument.kind == NonLocalJump.K_ARGV;
            given.add(byValue ? (Object) evaluate(self, argument.parts.get(0)) : procedureValue(self, argument.value));
        }
        List<Decl> params = callee.procedure.params;
        if (given.size() != params.size()) {
            throw trapped(NonLocalJump.T_ARGS);
        }
        Activation made = new Activation(callee.procedure, callee.home);
        for (int i = 0; i < params.size(); i++) {
            boolean byValue = given.get(i) instanceof Integer;
            if (byValue != (params.get(i).kind == NonLocalJump.K_PVAL)) {
                throw trapped(NonLocalJump.T_ARGS);
            }
            if (byValue) {
                made.variables.put(params.get(i).name, (Integer) given.get(i));
            } else {
                made.procedures.put(params.get(i).name, (ProcedureValue) given.get(i));
            }
        }
        if (depth() == depthLimit) {
            throw trapped(NonLocalJump.T_DEPTH);
        }
        live.add(made);
        runBody(made);
        live.remove(live.size() - 1);
    }

    private int evaluate(Activation self, Node node) {
        if (node.kind == NonLocalJump.K_NUM) {
            return node.value;
        }
        if (node.kind == NonLocalJump.K_REF) {
            return find(self, node.value).variables.get(node.value);
        }
        int left = evaluate(self, node.parts.get(0));
        int right = evaluate(self, node.parts.get(1));
        switch (node.kind) {
            case NonLocalJump.K_ADD: return left + right;
            case NonLocalJump.K_SUB: return left - right;
            case NonLocalJump.K_MUL: return left * right;
            case NonLocalJump.K_LT: return left < right ? 1 : 0;
            case NonLocalJump.K_EQ: return left == right ? 1 : 0;
            default:
                if (right == 0) {
                    throw trapped(NonLocalJump.T_DIV);
                }
                return node.kind == NonLocalJump.K_DIV ? left / right : left % right;
        }
    }
}
