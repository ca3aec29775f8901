/** Promise 7: what was printed, and 0 for every index outside it. */
public final class Promise07OutputTest {
    private static final int[] OUTSIDE = {Integer.MIN_VALUE, -32, -1, 32, 33, 256, Integer.MAX_VALUE};

    public static void main(String[] args) {
        growing();
        edit();
        fullOutput();
        oldValuesAreGone();
        Harness.finish();
    }

    private static void dueOutside(String what, NonLocalJump x) {
        for (int i : OUTSIDE) {
            Harness.due(what + ": output(" + i + ")", x.output(i), 0);
        }
        for (int i = x.outputCount(); i < 32; i++) {
            Harness.due(what + ": output(" + i + ")", x.output(i), 0);
        }
    }

    private static void growing() {
        NonLocalJump x = Harness.compiled("BEGIN PRINT 7 PRINT -7 PRINT 0 PRINT " + Integer.MIN_VALUE + " END");
        int[] want = {7, -7, 0, Integer.MIN_VALUE};
        for (int count = 0; count <= 4; count++) {
            for (int again = 0; again < 2; again++) {
                Harness.due("outputCount()", x.outputCount(), count);
                for (int i = 0; i < count; i++) {
                    Harness.due("output(" + i + ")", x.output(i), want[i]);
                }
                dueOutside("after " + count + " values", x);
            }
            x.run(1);
        }
    }

    private static void edit() {
        NonLocalJump x = Harness.feed(new NonLocalJump(16), "BEGIN PRINT 5 END");
        Harness.due("in S_EDIT: outputCount()", x.outputCount(), 0);
        dueOutside("in S_EDIT", x);
    }

    private static void fullOutput() {
        NonLocalJump x = Harness.compiled("BEGIN VAR i LABEL l SET i ADD REF i 1 PRINT MUL REF i REF i GOTO l END");
        x.run(256);
        Harness.due("full: trap()", x.trap(), NonLocalJump.T_OUTPUT);
        Harness.due("full: outputCount()", x.outputCount(), 32);
        for (int i = 0; i < 32; i++) {
            Harness.due("full: output(" + i + ")", x.output(i), (i + 1) * (i + 1));
        }
        dueOutside("full", x);
        x.reset();
        Harness.due("full, then reset: outputCount()", x.outputCount(), 0);
        dueOutside("full, then reset", x);
    }

    private static void oldValuesAreGone() {
        NonLocalJump x = Harness.compiled("BEGIN PRINT 1 PRINT 2 PRINT 3 END");
        x.run(3);
        x.reset();
        Harness.feed(x, "BEGIN PRINT 9 PRINT 8 END");
        dueOutside("before the second compile", x);
        x.compile();
        Harness.due("second program: outputCount()", x.outputCount(), 0);
        dueOutside("second program", x);
        x.run(1);
        Harness.dueOutput("second program", x, 9);
        dueOutside("second program", x);
    }
}
