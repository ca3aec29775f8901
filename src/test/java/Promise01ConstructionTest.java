/** Promise 1: any depth limit is taken and clamped, and a new object is empty. */
public final class Promise01ConstructionTest {
    private static final String ENDLESS_RECURSION = "BEGIN PROC f BEGIN CALL f DONE END CALL f DONE END";

    public static void main(String[] args) {
        int[] given = {Integer.MIN_VALUE, -17, -1, 0, 1, 2, 7, 15, 16, 17, 256, Integer.MAX_VALUE};
        int[] kept = {1, 1, 1, 1, 1, 2, 7, 15, 16, 16, 16, 16};
        for (int i = 0; i < given.length; i++) {
            startsEmpty(given[i]);
            limitIsKept(given[i], kept[i]);
        }
        Harness.finish();
    }

    private static void startsEmpty(int depthLimit) {
        NonLocalJump x = new NonLocalJump(depthLimit);
        String what = "new NonLocalJump(" + depthLimit + ")";
        Harness.dueState(what, x, NonLocalJump.S_EDIT, NonLocalJump.T_NONE, 0, 0);
        Harness.due(what + ": tokenCount()", x.tokenCount(), 0);
        Harness.dueOutput(what, x);
        for (int name = -1; name <= 16; name++) {
            Harness.due(what + ": mainVar(" + name + ")", x.mainVar(name), 0);
            Harness.due(what + ": seen(" + name + ")", x.seen(name), 0);
        }
    }

    private static void limitIsKept(int depthLimit, int kept) {
        NonLocalJump x = new NonLocalJump(depthLimit);
        for (int round = 0; round < 3; round++) {
            String what = "limit " + depthLimit + ", round " + round;
            Harness.feed(x, ENDLESS_RECURSION);
            Harness.due(what + ": compile()", x.compile(), NonLocalJump.C_OK);
            Harness.due(what + ": run(256)", x.run(256), NonLocalJump.S_TRAP);
            Harness.dueState(what, x, NonLocalJump.S_TRAP, NonLocalJump.T_DEPTH, kept + 1, kept);
            x.reset();
        }
    }
}
