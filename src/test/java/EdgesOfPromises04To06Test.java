import java.util.List;

/** Promises 4 to 6: each sentence that names an edge has a test of its own. A ".." stands where the document's words are left out. */
public final class EdgesOfPromises04To06Test {
    private static final int MIN = Integer.MIN_VALUE;
    private static final int MAX = Integer.MAX_VALUE;
    private static final int EDIT = NonLocalJump.S_EDIT;
    private static final int RUNNING = NonLocalJump.S_RUNNING;
    private static final int DONE = NonLocalJump.S_DONE;
    private static final int TRAP = NonLocalJump.S_TRAP;
    private static final int NONE = NonLocalJump.T_NONE;

    private static final String ENDLESS = "BEGIN VAR a LABEL l SET a ADD REF a 1 GOTO l END";
    private static final String RECURSION = "BEGIN PROC f BEGIN CALL f DONE END CALL f DONE END";

    // One that ends, one of each trap, one that jumps for ever, one that is empty.
    private static final String[] PROGRAMS = {
        "BEGIN VAR a PROC f PVAL n PPROC m BEGIN VAR b PROC g BEGIN SET b ADD REF b 1 PRINT REF b END IF REF n CALL m DONE CALL f ARGV SUB REF n 1 ARGP g DONE "
            + "ELSE CALL m DONE SET a REF n FI SET b ADD REF b REF n END PROC h BEGIN PRINT 100 END CALL f ARGV 5 ARGP h DONE SET a ADD REF a 3 END",
        "BEGIN VAR a PROC f PVAL n BEGIN SET a DIV 100 REF n CALL f ARGV SUB REF n 1 DONE END CALL f ARGV 5 DONE END",
        "BEGIN VAR a PROC f BEGIN VAR b SET b REF a SET a ADD REF a 1 CALL f DONE END CALL f DONE END",
        "BEGIN VAR a PROC f PVAL n BEGIN SET a ADD REF a 2 IF LT REF n 4 CALL f ARGV ADD REF n 1 DONE ELSE CALL f DONE FI END CALL f ARGV 0 DONE END",
        "BEGIN VAR a PROC f PVAL n BEGIN LABEL k PRINT REF n SET n ADD REF n 1 GOTO k END LABEL l CALL f ARGV 7 DONE END",
        "BEGIN VAR i PROC f PVAL n BEGIN SET i REF n IF LT REF n 9 CALL f ARGV ADD REF n 1 DONE ELSE GOTO l FI END LABEL l CALL f ARGV 0 DONE END",
        "BEGIN END"};

    public static void main(String[] args) {
        running();
        slicing();
        readings();
        Harness.finish();
    }

    private static void running() {
        Harness.sentence("if status() is not S_RUNNING, answers status() and changes nothing.", EdgesOfPromises04To06Test::notRunning);
        Harness.sentence("Otherwise fuel is clamped into 1..MAX_FUEL", EdgesOfPromises04To06Test::fuelBetween);
        Harness.sentence("(so 0 and any negative int give 1 ..", EdgesOfPromises04To06Test::fuelBelow);
        Harness.sentence("anything above 256 gives 256)", EdgesOfPromises04To06Test::fuelAbove);
        Harness.sentence("until it ends (S_DONE)", EdgesOfPromises04To06Test::untilItEnds);
        Harness.sentence("traps (S_TRAP)", EdgesOfPromises04To06Test::untilItTraps);
        Harness.sentence("or the fuel of this call is spent (S_RUNNING).", EdgesOfPromises04To06Test::untilFuelIsSpent);
        Harness.sentence("The answer is the new status().", EdgesOfPromises04To06Test::answerIsStatus);
        Harness.sentence("The depth limit never changes by running.", EdgesOfPromises04To06Test::limitStays);
    }

    private static void slicing() {
        Harness.sentence("The slicing of fuel does not matter. .. answer equally on the two objects.", EdgesOfPromises04To06Test::anySlices);
        Harness.sentence("each term first clamped into 1..256", EdgesOfPromises04To06Test::clampedTerms);
        Harness.sentence("(an empty list sums to 0", EdgesOfPromises04To06Test::emptyList);
        Harness.sentence("calls made after the run has ended or trapped still count)", EdgesOfPromises04To06Test::callsAfterTheEnd);
        Harness.sentence("Moreover executed() is at most F", EdgesOfPromises04To06Test::executedAtMost);
        Harness.sentence("and if status() is S_RUNNING then executed() equals F", EdgesOfPromises04To06Test::executedWhileRunning);
    }

    private static void readings() {
        Harness.sentence("status() answers S_EDIT, S_RUNNING, S_DONE or S_TRAP.", EdgesOfPromises04To06Test::statuses);
        Harness.sentence("trap() answers the trap code if status() is S_TRAP, else T_NONE.", EdgesOfPromises04To06Test::trapCodes);
        Harness.sentence("Neither changes anything. (Promise 5)", EdgesOfPromises04To06Test::askingStatusAndTrap);
        Harness.sentence("executed() answers the count of statements begun since the last successful compile", EdgesOfPromises04To06Test::sinceTheLastCompile);
        Harness.sentence("it is 0 in S_EDIT. (executed)", EdgesOfPromises04To06Test::executedInEdit);
        Harness.sentence("depth() .. is 0 in S_EDIT", EdgesOfPromises04To06Test::depthInEdit);
        Harness.sentence("depth() .. is 0 in .. S_DONE", EdgesOfPromises04To06Test::depthWhenDone);
        Harness.sentence("and after a trap it is as it was at the trap.", EdgesOfPromises04To06Test::depthAfterTrap);
        Harness.sentence("While running it never exceeds the depth limit.", EdgesOfPromises04To06Test::depthIsBounded);
        Harness.sentence("Neither changes anything. (Promise 6)", EdgesOfPromises04To06Test::askingCounters);
    }

    private static void notRunning() {
        for (int status : new int[] {EDIT, DONE, TRAP}) {
            NonLocalJump x = Harness.inStatus(status, 5);
            for (int fuel : new int[] {MIN, -1, 0, 1, 2, 256, 257, MAX}) {
                Harness.due("run(" + fuel + ") in status " + status, x.run(fuel), status);
            }
            Harness.dueLife("run in status " + status, x, status);
            Harness.dueTwins("run in status " + status, x, Harness.inStatus(status, 5));
        }
        Harness.due("run(1) of a new object", new NonLocalJump(1).run(1), EDIT);
        // A program that would compile, and one that failed to, do not run.
        NonLocalJump fed = Harness.feed(new NonLocalJump(1), "BEGIN PRINT 1 END");
        Harness.due("run(5) before compile", fed.run(5), EDIT);
        Harness.dueState("run(5) before compile", fed, EDIT, NONE, 0, 0);
        NonLocalJump failed = Harness.feed(new NonLocalJump(1), "BEGIN PRINT 1 PRINT REF a END");
        failed.compile();
        Harness.due("run(5) after a failed compile", failed.run(5), EDIT);
        Harness.dueOutput("run(5) after a failed compile", failed);
    }

    private static void dueSpent(int fuel, int spent) {
        NonLocalJump x = Harness.compiled(ENDLESS);
        for (int calls = 1; calls <= 3; calls++) {
            Harness.due("run(" + fuel + ")", x.run(fuel), RUNNING);
            Harness.due("executed() after " + calls + " run(" + fuel + ")", x.executed(), calls * spent);
            Harness.due("mainVar(0) after " + calls + " run(" + fuel + ")", x.mainVar(0), calls * spent / 2);
        }
    }

    private static void fuelBetween() {
        for (int fuel = 1; fuel <= 256; fuel++) {
            dueSpent(fuel, fuel);
        }
    }

    private static void fuelBelow() {
        for (int fuel : new int[] {0, -1, -2, -255, -256, -257, -65536, MIN + 1, MIN}) {
            dueSpent(fuel, 1);
        }
    }

    private static void fuelAbove() {
        for (int fuel : new int[] {257, 258, 511, 512, 65536, 65537, 1 << 30, MAX - 1, MAX}) {
            dueSpent(fuel, 256);
        }
    }

    private static void untilItEnds() {
        String ten = "BEGIN VAR a " + Harness.repeat("SET a ADD REF a 1", 10) + "END";
        for (int fuel : new int[] {10, 11, 256, MAX}) {
            NonLocalJump x = Harness.compiled(ten);
            Harness.due("ten statements: run(" + fuel + ")", x.run(fuel), DONE);
            Harness.dueState("ten statements", x, DONE, NONE, 10, 0);
            Harness.due("ten statements: mainVar(0)", x.mainVar(0), 10);
        }
        NonLocalJump y = Harness.compiled(ten);
        Harness.due("ten statements: run(9)", y.run(9), RUNNING);
        Harness.due("ten statements: mainVar(0)", y.mainVar(0), 9);
    }

    private static void untilItTraps() {
        String third = "BEGIN PRINT 1 PRINT 2 PRINT DIV 3 0 PRINT 4 END";
        for (int fuel : new int[] {3, 4, 256, MAX}) {
            NonLocalJump x = Harness.compiled(third);
            Harness.due("a trap in the third: run(" + fuel + ")", x.run(fuel), TRAP);
            Harness.dueState("a trap in the third", x, TRAP, NonLocalJump.T_DIV, 3, 0);
            Harness.dueOutput("a trap in the third", x, 1, 2);
        }
        NonLocalJump y = Harness.compiled(third);
        Harness.due("a trap in the third: run(2)", y.run(2), RUNNING);
        Harness.due("a trap in the third, before it: trap()", y.trap(), NONE);
    }

    private static void untilFuelIsSpent() {
        NonLocalJump x = Harness.compiled(ENDLESS);
        int total = 0;
        for (int fuel = 1; fuel <= 256; fuel++) {
            Harness.due("run(" + fuel + ")", x.run(fuel), RUNNING);
            total += fuel;
            Harness.due("executed()", x.executed(), total);
        }
        // The LABEL, then SET and GOTO by turns.
        Harness.due("mainVar(0)", x.mainVar(0), total / 2);
        // Fuel that a call did not need is not kept for the next one.
        NonLocalJump y = Harness.compiled("BEGIN END");
        y.run(256);
        y.reset();
        Harness.feed(y, ENDLESS);
        y.compile();
        y.run(1);
        Harness.due("run(1) after a run that had fuel left: executed()", y.executed(), 1);
    }

    private static void answerIsStatus() {
        for (String program : PROGRAMS) {
            for (int fuel : new int[] {1, 2, 3, 7, 50, 256}) {
                NonLocalJump x = Harness.compiled(program);
                for (int i = 0; i < 60; i++) {
                    int answer = x.run(fuel);
                    Harness.due("status() after run(" + fuel + ") of " + program, x.status(), answer);
                }
            }
        }
    }

    private static void limitStays() {
        for (int limit : new int[] {1, 2, 7, 16}) {
            for (String program : PROGRAMS) {
                NonLocalJump x = Harness.feed(new NonLocalJump(limit), program);
                x.compile();
                for (int i = 0; i < 40; i++) {
                    x.run(i);
                }
                x.reset();
                Harness.due("the depth limit " + limit + " after " + program, Harness.depthLimit(x), limit);
            }
        }
        // And in the middle of one run: at its limit, back, and at its limit again.
        NonLocalJump y = Harness.compiled(3, "BEGIN PROC f PVAL n BEGIN IF REF n CALL f ARGV SUB REF n 1 DONE FI END "
            + "CALL f ARGV 2 DONE CALL f ARGV 2 DONE CALL f ARGV 3 DONE END");
        Harness.due("twice to the limit, then over it: run(256)", y.run(256), TRAP);
        Harness.dueState("twice to the limit, then over it", y, TRAP, NonLocalJump.T_DEPTH, 19, 3);
    }

    private static NonLocalJump started(int limit, List<int[]> tokens) {
        NonLocalJump x = Harness.feed(new NonLocalJump(limit), tokens);
        x.compile();
        return x;
    }

    private static int clamped(int fuel) {
        return Math.max(1, Math.min(256, fuel));
    }

    /** Runs a new object with all the fuel in calls as large as can be. */
    private static NonLocalJump inLargeCalls(int limit, List<int[]> tokens, int total) {
        NonLocalJump x = started(limit, tokens);
        for (int left = total; left > 0; left -= clamped(left)) {
            x.run(left);
        }
        return x;
    }

    private static void anySlices() {
        int[][] slices = {{1}, {2}, {3, 1}, {5, 8, 13}, {255, 1}, {100}};
        for (String program : PROGRAMS) {
            List<int[]> tokens = Harness.tokens(program);
            for (int limit : new int[] {2, 16}) {
                for (int[] slice : slices) {
                    NonLocalJump x = started(limit, tokens);
                    int total = 0;
                    for (int i = 0; total < 120; i++) {
                        x.run(slice[i % slice.length]);
                        total += slice[i % slice.length];
                        Harness.dueSame(program + " with fuel " + total, x, inLargeCalls(limit, tokens, total));
                    }
                }
            }
        }
    }

    private static void clampedTerms() {
        int[][] slices = {{0}, {-1, MIN}, {MIN, 0, -256}, {257}, {MAX}, {MAX, MIN}, {0, 256, 1000}};
        for (String program : PROGRAMS) {
            List<int[]> tokens = Harness.tokens(program);
            for (int[] slice : slices) {
                NonLocalJump x = started(16, tokens);
                int total = 0;
                for (int i = 0; i < 70; i++) {
                    x.run(slice[i % slice.length]);
                    total += clamped(slice[i % slice.length]);
                    if (i < 10 || i == 69) {
                        Harness.dueSame(program + " with fuel " + total, x, inLargeCalls(16, tokens, total));
                    }
                }
            }
        }
    }

    private static void emptyList() {
        for (String program : PROGRAMS) {
            NonLocalJump x = Harness.compiled(program);
            // No call at all: nothing is begun, not even the end of an empty program.
            Harness.dueState(program + " with no run call", x, RUNNING, NONE, 0, 0);
            Harness.dueOutput(program + " with no run call", x);
            Harness.dueSame(program + " with no run call", x, Harness.compiled(program));
        }
    }

    private static void callsAfterTheEnd() {
        for (String program : PROGRAMS) {
            List<int[]> tokens = Harness.tokens(program);
            NonLocalJump x = inLargeCalls(16, tokens, 1024);
            NonLocalJump y = started(16, tokens);
            for (int i = 0; i < 1024; i++) {
                y.run(1);
            }
            Harness.dueSame(program + " with fuel 1024 in small calls", y, x);
            NonLocalJump z = started(16, tokens);
            for (int i = 0; i < 512; i++) {
                z.run(3);
                z.run(-3);
            }
            Harness.dueSame(program + " with fuel 2048", z, inLargeCalls(16, tokens, 2048));
        }
    }

    private static void executedAtMost() {
        for (String program : PROGRAMS) {
            for (int fuel : new int[] {MIN, 0, 1, 2, 5, 17, 100, 256, MAX}) {
                NonLocalJump x = Harness.compiled(program);
                int total = 0;
                for (int i = 0; i < 50; i++) {
                    x.run(fuel);
                    total += clamped(fuel);
                    Harness.due("executed() is at most " + total + " in " + program, x.executed() <= total, true);
                }
            }
        }
        NonLocalJump y = Harness.compiled("BEGIN PRINT 1 PRINT 2 END");
        y.run(256);
        y.run(256);
        Harness.due("two statements with fuel 512: executed()", y.executed(), 2);
    }

    private static void executedWhileRunning() {
        for (String program : PROGRAMS) {
            for (int fuel : new int[] {MIN, 0, 1, 2, 5, 17, 100, 256, MAX}) {
                NonLocalJump x = Harness.compiled(program);
                int total = 0;
                for (int i = 0; i < 50 && x.run(fuel) == RUNNING; i++) {
                    total += clamped(fuel);
                    Harness.due("executed() of " + program, x.executed(), total);
                }
            }
        }
        NonLocalJump y = Harness.compiled(ENDLESS);
        for (int i = 1; i <= 20000; i++) {
            y.run(256);
        }
        Harness.dueState("20000 calls", y, RUNNING, NONE, 5120000, 0);
        Harness.due("20000 calls: mainVar(0)", y.mainVar(0), 2560000);
    }

    private static void statuses() {
        NonLocalJump x = new NonLocalJump(4);
        Harness.due("new: status()", x.status(), EDIT);
        Harness.feed(x, "BEGIN PRINT 1 PRINT 2");
        Harness.due("fed: status()", x.status(), EDIT);
        x.compile();
        Harness.due("after a failed compile: status()", x.status(), EDIT);
        Harness.feed(x, "END");
        x.compile();
        Harness.due("compiled: status()", x.status(), RUNNING);
        x.run(1);
        Harness.due("half run: status()", x.status(), RUNNING);
        x.run(1);
        Harness.due("run: status()", x.status(), DONE);
        x.run(1);
        x.compile();
        x.token(1, 0);
        Harness.due("refused calls: status()", x.status(), DONE);
        x.reset();
        Harness.due("reset: status()", x.status(), EDIT);
        Harness.due("trapped: status()", Harness.inStatus(TRAP, 4).status(), TRAP);
    }

    private static void trapCodes() {
        String[] programs = {"BEGIN PRINT DIV 1 0 END", "BEGIN PRINT MOD 1 0 END", RECURSION, "BEGIN PROC f BEGIN END CALL f ARGV 1 DONE END",
            "BEGIN LABEL l PRINT 1 GOTO l END"};
        int[] codes = {NonLocalJump.T_DIV, NonLocalJump.T_DIV, NonLocalJump.T_DEPTH, NonLocalJump.T_ARGS, NonLocalJump.T_OUTPUT};
        NonLocalJump x = new NonLocalJump(9);
        for (int i = 0; i < programs.length; i++) {
            Harness.due("new or reset: trap()", x.trap(), NONE);
            Harness.feed(x, programs[i]);
            Harness.due("fed: trap()", x.trap(), NONE);
            x.compile();
            Harness.due("compiled: trap()", x.trap(), NONE);
            while (x.run(1) == RUNNING && x.executed() < 1000) {
                Harness.due("running " + programs[i] + ": trap()", x.trap(), NONE);
            }
            Harness.due("trapped by " + programs[i] + ": trap()", x.trap(), codes[i]);
            x.reset();
            Harness.due("reset: trap()", x.trap(), NONE);
            Harness.feed(x, "BEGIN END");
            x.compile();
            Harness.due("compiled after a trap: trap()", x.trap(), NONE);
            x.run(1);
            Harness.due("done after a trap: trap()", x.trap(), NONE);
            x.reset();
        }
    }

    private static void askingStatusAndTrap() {
        for (int status = 0; status <= 3; status++) {
            NonLocalJump x = Harness.inStatus(status, 5);
            for (int i = 0; i < 10; i++) {
                Harness.due("status()", x.status(), status);
                Harness.due("trap()", x.trap(), status == TRAP ? NonLocalJump.T_DIV : NONE);
            }
            Harness.dueLife("status() and trap() asked", x, status);
            Harness.dueTwins("status() and trap() asked in status " + status, x, Harness.inStatus(status, 5));
        }
    }

    private static void sinceTheLastCompile() {
        NonLocalJump x = Harness.compiled("BEGIN PRINT 1 PRINT 2 PRINT 3 END");
        Harness.due("compiled: executed()", x.executed(), 0);
        x.run(2);
        Harness.due("two statements: executed()", x.executed(), 2);
        // A refused compile is not a successful one.
        x.compile();
        Harness.due("after a refused compile: executed()", x.executed(), 2);
        x.run(9);
        Harness.due("done: executed()", x.executed(), 3);
        x.compile();
        Harness.due("done, after a refused compile: executed()", x.executed(), 3);
        x.reset();
        Harness.feed(x, "BEGIN PRINT 1 PRINT 2 END");
        x.compile();
        Harness.due("compiled anew: executed()", x.executed(), 0);
        x.run(1);
        Harness.due("one statement of the new program: executed()", x.executed(), 1);
        // Begun, not ended: a call counts before its body is through, a trapping statement too.
        NonLocalJump y = Harness.compiled("BEGIN PROC f BEGIN PRINT 1 PRINT DIV 1 0 END CALL f DONE END");
        y.run(1);
        Harness.due("in the call: executed()", y.executed(), 1);
        y.run(5);
        Harness.due("trapped: executed()", y.executed(), 3);
    }

    private static void executedInEdit() {
        for (int status = 0; status <= 3; status++) {
            NonLocalJump x = Harness.inStatus(status, 5);
            x.reset();
            Harness.due("reset from status " + status + ": executed()", x.executed(), 0);
            Harness.feed(x, "BEGIN PRINT 1");
            Harness.due("fed: executed()", x.executed(), 0);
            x.compile();
            x.run(5);
            Harness.due("after a failed compile and a refused run: executed()", x.executed(), 0);
        }
    }

    private static void depthInEdit() {
        for (int status = 0; status <= 3; status++) {
            NonLocalJump x = Harness.inStatus(status, 5);
            x.reset();
            Harness.due("reset from status " + status + ": depth()", x.depth(), 0);
            Harness.feed(x, RECURSION);
            Harness.due("fed: depth()", x.depth(), 0);
            x.run(5);
            Harness.due("after a refused run: depth()", x.depth(), 0);
        }
    }

    private static void depthWhenDone() {
        String jumpToTheEnd = "BEGIN PROC f PVAL n BEGIN IF REF n CALL f ARGV SUB REF n 1 DONE ELSE GOTO l FI END CALL f ARGV %d DONE PRINT 1 LABEL l END";
        String returns = "BEGIN PROC f PVAL n BEGIN IF REF n CALL f ARGV SUB REF n 1 DONE FI END CALL f ARGV %d DONE END";
        for (int levels = 0; levels < 16; levels++) {
            for (String program : new String[] {jumpToTheEnd, returns}) {
                NonLocalJump x = Harness.compiled(String.format(program, levels));
                Harness.due("run(256)", x.run(256), DONE);
                Harness.due("done after " + (levels + 1) + " levels: depth()", x.depth(), 0);
            }
        }
        Harness.due("an ended object: depth()", Harness.inStatus(DONE, 5).depth(), 0);
    }

    private static void depthAfterTrap() {
        for (int levels = 0; levels <= 16; levels++) {
            String calls = levels == 0 ? "PRINT DIV 1 0" : "CALL f ARGV " + (levels - 1) + " DONE";
            NonLocalJump x = Harness.compiled("BEGIN PROC f PVAL n BEGIN IF REF n CALL f ARGV SUB REF n 1 DONE FI PRINT DIV 1 0 END " + calls + " END");
            Harness.due("run(256)", x.run(256), TRAP);
            for (int again = 0; again < 3; again++) {
                Harness.due("trapped at level " + levels + ": depth()", x.depth(), levels);
                x.run(256);
                x.compile();
                x.token(1, 0);
            }
        }
        for (int limit = 1; limit <= 16; limit++) {
            NonLocalJump y = Harness.compiled(limit, RECURSION);
            y.run(256);
            Harness.due("too deep for " + limit + ": depth()", y.depth(), limit);
        }
    }

    private static void depthIsBounded() {
        for (int limit = -1; limit <= 18; limit++) {
            for (String program : PROGRAMS) {
                NonLocalJump x = Harness.compiled(limit, program);
                for (int i = 0; i < 120; i++) {
                    x.run(1);
                    Harness.due("limit " + limit + ": depth() in bounds", x.depth() >= 0 && x.depth() <= Math.max(1, Math.min(16, limit)), true);
                }
            }
        }
        // The limit itself is reached.
        for (int limit = 1; limit <= 16; limit++) {
            NonLocalJump y = Harness.compiled(limit, RECURSION);
            Harness.due("limit " + limit + ": run(limit)", y.run(limit), RUNNING);
            Harness.due("limit " + limit + ": depth()", y.depth(), limit);
        }
    }

    private static void askingCounters() {
        for (int status = 0; status <= 3; status++) {
            NonLocalJump x = Harness.inStatus(status, 5);
            int executed = x.executed();
            int depth = x.depth();
            for (int i = 0; i < 10; i++) {
                Harness.due("executed()", x.executed(), executed);
                Harness.due("depth()", x.depth(), depth);
            }
            Harness.dueLife("executed() and depth() asked", x, status);
            Harness.dueTwins("executed() and depth() asked in status " + status, x, Harness.inStatus(status, 5));
        }
    }
}
