import java.util.ArrayList;
import java.util.List;

/** Every sequence of a few kinds, all names being 0: what compile answers is compared with the model. */
public final class EveryShortProgramTest {
    private static final NonLocalJump used = new NonLocalJump(16);
    private static final int[] answers = new int[4];

    public static void main(String[] args) {
        for (int length = 0; length <= 4; length++) {
            everySequence("", length, "");
        }
        everySequence("BEGIN", 4, "");
        everySequence("BEGIN", 4, "END");
        for (String start : new String[] {"BEGIN PROC a", "BEGIN PROC a BEGIN", "BEGIN IF 1", "BEGIN IF 1 ELSE", "BEGIN PROC a BEGIN END CALL a", "BEGIN PRINT"}) {
            everySequence(start, 3, "END");
        }
        for (int answer = 0; answer <= 3; answer++) {
            System.out.println("compile answered " + answer + ": " + answers[answer]);
        }
        // Nothing so short is over a limit; of the rest there is some.
        Harness.due("short programs over a limit", answers[NonLocalJump.C_LIMIT], 0);
        Harness.due("short programs that compile", answers[NonLocalJump.C_OK] > 50, true);
        Harness.due("short programs with wrong names", answers[NonLocalJump.C_NAME] > 100, true);
        Harness.finish();
    }

    private static void everySequence(String start, int length, String end) {
        List<int[]> program = new ArrayList<>(Harness.tokens(start));
        int first = program.size();
        for (int i = 0; i < length; i++) {
            program.add(new int[] {1, 0});
        }
        program.addAll(Harness.tokens(end));
        int at;
        do {
            compare(program);
            // The next sequence: as in counting, a kind past the last one carries over.
            for (at = 0; at < length; at++) {
                int[] token = program.get(first + at);
                token[0]++;
                if (token[0] <= 26) {
                    break;
                }
                token[0] = 1;
            }
        } while (at < length);
    }

    private static void compare(List<int[]> program) {
        used.reset();
        Harness.feed(used, program);
        int due = new ReferenceModel(16, program).compile();
        int got = used.compile();
        answers[due]++;
        if (got != due) {
            Harness.due("compile() of " + Harness.text(program), got, due);
        }
        int status = due == NonLocalJump.C_OK ? NonLocalJump.S_RUNNING : NonLocalJump.S_EDIT;
        if (used.status() != status || used.tokenCount() != program.size()) {
            Harness.due("status() after compile() of " + Harness.text(program), used.status(), status);
            Harness.due("tokenCount() after compile() of " + Harness.text(program), used.tokenCount(), program.size());
        }
    }
}
