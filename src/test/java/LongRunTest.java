/** The longest run that the document promises something about; it takes some twenty seconds. */
public final class LongRunTest {
    private static final int MAX = Integer.MAX_VALUE;

    public static void main(String[] args) {
        Harness.sentence("executed() equals F, as long as F is at most Integer.MAX_VALUE; beyond that nothing is promised about executed().",
            LongRunTest::upToTheLargestCount);
        Harness.finish();
    }

    private static void upToTheLargestCount() {
        NonLocalJump x = Harness.compiled("BEGIN VAR a SET a 3 LABEL l GOTO l END");
        int total = 0;
        while (total <= MAX - 512) {
            x.run(256);
            total += 256;
        }
        Harness.due("executed()", x.executed(), total);
        for (int fuel : new int[] {255, 200, 1, MAX - total - 456}) {
            Harness.due("run(" + fuel + ")", x.run(fuel), NonLocalJump.S_RUNNING);
            total += fuel;
            Harness.due("executed()", x.executed(), total);
        }
        Harness.due("the fuel in all", total, MAX);
        // Beyond it only executed() is free.
        for (int i = 0; i < 4; i++) {
            Harness.due("run(256) beyond it", x.run(256), NonLocalJump.S_RUNNING);
            Harness.due("status() beyond it", x.status(), NonLocalJump.S_RUNNING);
            Harness.due("trap() beyond it", x.trap(), NonLocalJump.T_NONE);
            Harness.due("depth() beyond it", x.depth(), 0);
            Harness.due("mainVar(0) beyond it", x.mainVar(0), 3);
            Harness.due("seen(0) beyond it", x.seen(0), 3);
        }
        x.reset();
        Harness.due("executed() after reset", x.executed(), 0);
    }
}
