import java.util.ArrayList;
import java.util.List;

/** Makes programs out of a seed: mostly right ones, with calls, procedure parameters and jumps outward. */
final class ProgramMaker {
    private static final int NONE = 0;
    private long seed;
    private List<int[]> tokens;

    /** What one body declares: the kind of each name, and for a PROC the kinds of its parameters. */
    private static final class Scope {
        final Scope outer;
        final int[] kind = new int[16];
        final int[][] params = new int[16][];

        Scope(Scope outer) {
            this.outer = outer;
        }
    }

    ProgramMaker(long seed) {
        this.seed = seed;
    }

    /** 0..bound-1, the same for the same seed on every machine. */
    int pick(int bound) {
        seed = seed * 6364136223846793005L + 1442695040888963407L;
        return (int) ((seed >>> 33) % bound);
    }

    private boolean oneIn(int count) {
        return pick(count) == 0;
    }

    List<int[]> program() {
        do {
            tokens = new ArrayList<>();
            body(new Scope(null), 0);
        } while (tokens.size() > 256);
        return tokens;
    }

    /** Changes a few tokens, so that programs are met that are nearly right. */
    List<int[]> spoilt(List<int[]> right) {
        List<int[]> spoilt = new ArrayList<>(right);
        for (int changes = 1 + pick(2); changes > 0; changes--) {
            int at = pick(spoilt.size());
            int how = pick(5);
            if (how == 0 && spoilt.size() > 1) {
                spoilt.remove(at);
            } else if (how == 1 && spoilt.size() < 256) {
                spoilt.add(at, anyToken());
            } else if (how == 2) {
                spoilt.set(at, anyToken());
            } else if (how == 3) {
                int[] moved = spoilt.get(at);
                int other = pick(spoilt.size());
                spoilt.set(at, spoilt.get(other));
                spoilt.set(other, moved);
            } else {
                spoilt.set(at, new int[] {spoilt.get(at)[0], pick(16)});
            }
        }
        return spoilt;
    }

    private int[] anyToken() {
        return new int[] {1 + pick(26), pick(16)};
    }

    private void put(int kind, int value) {
        tokens.add(new int[] {kind, value});
    }

    private int fresh(Scope scope, int kind) {
        int name = pick(16);
        for (int i = 0; i < 16 && scope.kind[name] != NONE && !oneIn(300); i++) {
            name = (name + 1) % 16;
        }
        scope.kind[name] = kind;
        return name;
    }

    private void body(Scope scope, int nesting) {
        put(NonLocalJump.K_BEGIN, 0);
        int variables = pick(3) + (nesting == 0 ? 1 : 0);
        int procedures = nesting == 0 ? 1 + pick(3) : nesting < 4 ? pick(3) : 0;
        int labels = pick(3);
        List<int[]> declared = new ArrayList<>();
        for (int i = 0; i < variables; i++) {
            declared.add(new int[] {NonLocalJump.K_VAR, fresh(scope, NonLocalJump.K_VAR)});
        }
        for (int i = 0; i < procedures; i++) {
            int name = fresh(scope, NonLocalJump.K_PROC);
            scope.params[name] = signature();
            declared.add(pick(declared.size() + 1), new int[] {NonLocalJump.K_PROC, name});
        }
        int[] labelNames = new int[labels];
        for (int i = 0; i < labels; i++) {
            labelNames[i] = fresh(scope, NonLocalJump.K_LABEL);
        }
        for (int[] decl : declared) {
            put(decl[0], decl[1]);
            if (decl[0] == NonLocalJump.K_PROC) {
                procedure(scope, decl[1], nesting);
            }
        }
        for (int label : labelNames) {
            statements(scope, 1 + pick(3), 0);
            put(NonLocalJump.K_LABEL, label);
        }
        statements(scope, pick(4) + (nesting == 0 ? 1 : 0), 0);
        put(NonLocalJump.K_END, 0);
    }

    private int[] signature() {
        int[][] usual = {
            {}, {}, {NonLocalJump.K_PVAL}, {NonLocalJump.K_PPROC}, {NonLocalJump.K_PPROC, NonLocalJump.K_PVAL},
            {NonLocalJump.K_PVAL, NonLocalJump.K_PPROC, NonLocalJump.K_PPROC}};
        return usual[pick(usual.length)];
    }

    private void procedure(Scope scope, int name, int nesting) {
        Scope inner = new Scope(scope);
        int[] params = scope.params[name] == null ? new int[0] : scope.params[name];
        for (int kind : params) {
            put(kind, fresh(inner, kind));
        }
        body(inner, nesting + 1);
    }

    private static int nearestKind(Scope scope, int name) {
        for (Scope at = scope; at != null; at = at.outer) {
            if (at.kind[name] != NONE) {
                return at.kind[name];
            }
        }
        return NONE;
    }

    private static int[] nearestParams(Scope scope, int name) {
        for (Scope at = scope; at != null; at = at.outer) {
            if (at.kind[name] != NONE) {
                return at.params[name];
            }
        }
        return null;
    }

    /** A name of one of the two kinds that the scope sees, or -1. */
    private int known(Scope scope, int kind, int orKind) {
        if (oneIn(400)) {
            return pick(16);
        }
        int first = pick(16);
        for (int i = 0; i < 16; i++) {
            int name = (first + i) % 16;
            int found = nearestKind(scope, name);
            if (found == kind || found == orKind) {
                return name;
            }
        }
        return -1;
    }

    private void statements(Scope scope, int count, int nesting) {
        for (int i = 0; i < count; i++) {
            statement(scope, nesting);
        }
    }

    private void statement(Scope scope, int nesting) {
        int variable = known(scope, NonLocalJump.K_VAR, NonLocalJump.K_PVAL);
        int procedure = known(scope, NonLocalJump.K_PROC, NonLocalJump.K_PPROC);
        int label = known(scope, NonLocalJump.K_LABEL, NonLocalJump.K_LABEL);
        int choice = pick(12);
        if (choice < 3 && variable >= 0) {
            put(NonLocalJump.K_SET, variable);
            expression(scope, 0);
        } else if (choice < 8 && choice >= 5 && procedure >= 0) {
            call(scope, procedure);
        } else if (choice == 8 && label >= 0) {
            put(NonLocalJump.K_GOTO, label);
        } else if (choice > 8 && nesting < 3) {
            branch(scope, nesting);
        } else {
            put(NonLocalJump.K_PRINT, 0);
            expression(scope, 0);
        }
    }

    private void branch(Scope scope, int nesting) {
        put(NonLocalJump.K_IF, 0);
        expression(scope, 0);
        statements(scope, pick(3), nesting + 1);
        if (oneIn(2)) {
            put(NonLocalJump.K_ELSE, 0);
            statements(scope, pick(3), nesting + 1);
        }
        put(NonLocalJump.K_FI, 0);
    }

    private void call(Scope scope, int name) {
        put(NonLocalJump.K_CALL, name);
        int[] params = nearestParams(scope, name);
        if (params == null) {
            params = oneIn(3) ? signature() : new int[0];
        }
        for (int kind : params) {
            int procedure = known(scope, NonLocalJump.K_PROC, NonLocalJump.K_PPROC);
            if (kind == NonLocalJump.K_PPROC && procedure >= 0 && !oneIn(40)) {
                put(NonLocalJump.K_ARGP, procedure);
            } else {
                put(NonLocalJump.K_ARGV, 0);
                expression(scope, 1);
            }
        }
        put(NonLocalJump.K_DONE, 0);
    }

    private void expression(Scope scope, int nesting) {
        int variable = known(scope, NonLocalJump.K_VAR, NonLocalJump.K_PVAL);
        int choice = pick(10);
        if (choice < 3 && nesting < 4) {
            int operator = oneIn(8) ? NonLocalJump.K_DIV + pick(2) : NonLocalJump.K_ADD + pick(3);
            put(oneIn(3) ? NonLocalJump.K_LT + pick(2) : operator, 0);
            expression(scope, nesting + 1);
            expression(scope, nesting + 1);
        } else if (choice < 7 && variable >= 0) {
            put(NonLocalJump.K_REF, variable);
        } else {
            put(NonLocalJump.K_NUM, oneIn(10) ? pick(2) == 0 ? Integer.MIN_VALUE : Integer.MAX_VALUE - pick(3) : pick(7) - 2);
        }
    }
}
