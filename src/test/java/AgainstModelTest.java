import java.util.List;

/** Many made programs, each asked at every step and compared with the model. */
public final class AgainstModelTest {
    private static final int PROGRAMS = 4000;
    private static final int STEPS = 60;
    private static final int[] compiled = new int[4];
    private static final int[] ended = new int[4];
    private static final int[] traps = new int[5];
    private static int deepest = 0;

    public static void main(String[] args) {
        ProgramMaker maker = new ProgramMaker(20261115L);
        NonLocalJump used = new NonLocalJump(16);
        for (int i = 0; i < PROGRAMS; i++) {
            List<int[]> program = maker.program();
            int limit = i % 3 == 0 ? 1 + maker.pick(16) : 16;
            oneProgram(new NonLocalJump(limit), limit, program);
            used.reset();
            oneProgram(used, 16, maker.spoilt(program));
        }
        report();
        Harness.finish();
    }

    private static void oneProgram(NonLocalJump x, int limit, List<int[]> program) {
        ReferenceModel model = new ReferenceModel(limit, program);
        Harness.feed(x, program);
        int answer = model.compile();
        compiled[answer]++;
        String what = Harness.text(program);
        Harness.due("compile() of " + what, x.compile(), answer);
        if (answer != NonLocalJump.C_OK || x.status() != NonLocalJump.S_RUNNING) {
            return;
        }
        for (int fuel = 0; fuel <= STEPS; fuel++) {
            model.runFromStart(fuel);
            compare("after " + fuel + " of " + what, x, model);
            deepest = Math.max(deepest, model.depth());
            if (model.status != NonLocalJump.S_RUNNING) {
                break;
            }
            x.run(1);
        }
        x.run(256);
        model.runFromStart(STEPS + 1 + 256);
        compare("after a long run of " + what, x, model);
        ended[model.status]++;
        traps[model.trap]++;
    }

    private static void compare(String what, NonLocalJump x, ReferenceModel model) {
        boolean same = x.status() == model.status && x.trap() == model.trap && x.executed() == model.executed
            && x.depth() == model.depth() && x.outputCount() == model.output.size();
        for (int i = 0; i < 33; i++) {
            same &= x.output(i) == (i < model.output.size() ? model.output.get(i) : 0);
        }
        for (int name = 0; name < 16; name++) {
            same &= x.mainVar(name) == model.mainVar(name) && x.seen(name) == model.seen(name);
        }
        Harness.due("the same as the model, " + what, same, true);
    }

    /** A maker that no longer reaches every outcome would make the comparison empty. */
    private static void report() {
        for (int i = 0; i < compiled.length; i++) {
            System.out.println("compile answered " + i + ": " + compiled[i]);
            Harness.due("programs that compile to " + i + " are many", compiled[i] >= 20, true);
        }
        for (int i = 1; i < ended.length; i++) {
            System.out.println("ended with status " + i + ": " + ended[i]);
            Harness.due("programs that end with status " + i + " are many", ended[i] >= 100, true);
        }
        for (int i = 0; i < traps.length; i++) {
            System.out.println("ended with trap " + i + ": " + traps[i]);
            Harness.due("programs that end with trap " + i + " are many", traps[i] >= 20, true);
        }
        Harness.due("the greatest depth reached", deepest, 16);
    }
}
