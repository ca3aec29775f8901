/** "Bodies and scope" and "Activations": each sentence that names an edge has a test of its own. */
public final class EdgesOfBodiesAndActivationsTest {
    private static final int OK = NonLocalJump.C_OK;
    private static final int LIMIT = NonLocalJump.C_LIMIT;
    private static final int NAME = NonLocalJump.C_NAME;

    public static void main(String[] args) {
        Harness.sentence("Each PROC makes one more body, the procedure's own, nested in the body in which the PROC stands.",
            EdgesOfBodiesAndActivationsTest::oneBodyForEachProc);
        Harness.sentence("The DECLARATIONS of a body are: its VARs, the names of the PROCs standing directly in it, "
            + "its own parameters (procedure bodies only) and the names of its LABELs.", EdgesOfBodiesAndActivationsTest::declarations);
        Harness.sentence("A declaration holds in the whole of its body, before and after it, and in all bodies nested inside.",
            EdgesOfBodiesAndActivationsTest::wholeBody);
        Harness.sentence("A name used in body B means its declaration in B if there is one, otherwise in the body enclosing B, "
            + "and so on out to the main body; the nearest wins.", EdgesOfBodiesAndActivationsTest::nearestWins);
        Harness.sentence("Categories: VAR and PVAL names are variables, PROC and PPROC names are procedures, LABEL names are labels.",
            EdgesOfBodiesAndActivationsTest::categories);
        Harness.sentence("Running a body makes an activation of it, holding one int per variable of that body and one procedure value "
            + "per PPROC of it.", EdgesOfBodiesAndActivationsTest::oneValueEach);
        Harness.sentence("then go from A through static parents until an activation of the body holding D is reached (it always exists)",
            EdgesOfBodiesAndActivationsTest::finding);
        Harness.sentence("if p is a PROC, the pair (that procedure, the activation found for p)",
            EdgesOfBodiesAndActivationsTest::valueOfProc);
        Harness.sentence("if p is a PPROC, the procedure value stored for p in the activation found for p.",
            EdgesOfBodiesAndActivationsTest::valueOfPproc);
        Harness.sentence("depth() is the number of live activations other than the main one.",
            EdgesOfBodiesAndActivationsTest::depthCounts);
        Harness.finish();
    }

    /** A body in a body in a body, the innermost as given; every body but it calls the one inside. */
    private static String nested(int levels, String innermost) {
        String text = innermost;
        for (int i = 0; i < levels; i++) {
            text = "PROC b BEGIN " + text + " END CALL b DONE";
        }
        return text;
    }

    private static String siblings(int count) {
        StringBuilder text = new StringBuilder();
        for (int i = 0; i < count; i++) {
            text.append("PROC ").append((char) ('a' + i)).append(" BEGIN END ");
        }
        return text.toString();
    }

    private static void oneBodyForEachProc() {
        Harness.dueCompile("BEGIN " + nested(15, "PRINT 1") + " END", OK);
        Harness.dueCompile("BEGIN " + nested(16, "PRINT 1") + " END", LIMIT);
        Harness.dueCompile("BEGIN PROC a BEGIN " + siblings(8) + "END PROC b BEGIN " + siblings(5) + "END END", OK);
        Harness.dueCompile("BEGIN PROC a BEGIN " + siblings(8) + "END PROC b BEGIN " + siblings(6) + "END END", LIMIT);
        // Standing side by side is not being nested, and the second does not stand in the first.
        Harness.dueCompile("BEGIN PROC a BEGIN VAR c END PROC b BEGIN PRINT REF c END END", NAME);
        Harness.dueCompile("BEGIN PROC a BEGIN VAR c PROC b BEGIN PRINT REF c END END END", OK);
        Harness.dueCompile("BEGIN PROC a BEGIN PROC b BEGIN VAR c END PRINT REF c END END", NAME);
        Harness.dueCompile("BEGIN PROC a BEGIN END PROC b BEGIN END PROC c BEGIN VAR d END PRINT REF d END", NAME);
    }

    private static void declarations() {
        String seven = "VAR a VAR b VAR c VAR d VAR e VAR f VAR g ";
        String[] one = {"VAR h", "PROC h BEGIN END", "LABEL h"};
        String[] two = {"VAR h VAR i", "VAR h PROC i BEGIN END", "VAR h LABEL i", "PROC h BEGIN END PROC i BEGIN END",
            "PROC h BEGIN END LABEL i", "LABEL h LABEL i"};
        for (String eighth : one) {
            Harness.dueCompile("BEGIN " + seven + eighth + " END", OK);
            Harness.dueCompile("BEGIN PROC p BEGIN " + seven + eighth + " END END", OK);
        }
        for (String ninth : two) {
            Harness.dueCompile("BEGIN " + seven + ninth + " END", LIMIT);
            Harness.dueCompile("BEGIN PROC p BEGIN " + seven + ninth + " END END", LIMIT);
        }
        Harness.dueCompile("BEGIN PROC p PVAL h BEGIN " + seven + "END END", OK);
        Harness.dueCompile("BEGIN PROC p PPROC h BEGIN " + seven + "END END", OK);
        Harness.dueCompile("BEGIN PROC p PVAL h BEGIN " + seven + "LABEL i END END", LIMIT);
        Harness.dueCompile("BEGIN PROC p PPROC h BEGIN " + seven + "VAR i END END", LIMIT);
        // What stands in an inner body, parameters among it, does not count outside, nor the other way round.
        Harness.dueCompile("BEGIN " + seven + "PROC h PVAL a PPROC b BEGIN VAR c VAR d VAR e VAR f PROC g BEGIN LABEL a END LABEL h END END", OK);
        // Uses are no declarations, nor is a procedure's name one of its own body.
        Harness.dueCompile("BEGIN " + seven + "LABEL h GOTO h GOTO h SET a REF b PRINT REF c END", OK);
        Harness.dueCompile("BEGIN PROC p BEGIN " + seven + "VAR h CALL p DONE END END", OK);
        Harness.dueCompile("BEGIN PROC p PVAL p BEGIN PRINT REF p END END", OK);
    }

    private static void wholeBody() {
        Harness.duePrints("BEGIN PROC f BEGIN SET a 3 PRINT REF a END VAR a CALL f DONE PRINT REF a END", 3, 3);
        Harness.duePrints("BEGIN PROC f BEGIN CALL g DONE END PROC g BEGIN PRINT 4 END CALL f DONE END", 4);
        Harness.duePrints("BEGIN GOTO l PRINT 1 LABEL l PRINT 2 END", 2);
        Harness.duePrints("BEGIN VAR i LABEL l SET i ADD REF i 1 IF LT REF i 3 GOTO l FI PRINT REF i END", 3);
        Harness.duePrints("BEGIN PROC f BEGIN GOTO l END CALL f DONE PRINT 1 LABEL l PRINT 5 END", 5);
        Harness.duePrints("BEGIN PROC f PVAL a BEGIN PROC g BEGIN PROC h BEGIN PRINT REF a END CALL h DONE END CALL g DONE END "
            + "CALL f ARGV 6 DONE END", 6);
        // A label behind the use hides the outer one from the start of the body on.
        Harness.duePrints("BEGIN PROC f BEGIN GOTO l PRINT 1 LABEL l PRINT 2 END CALL f DONE PRINT 3 GOTO m LABEL l PRINT 4 LABEL m END", 2, 3);
        Harness.dueCompile("BEGIN VAR l PROC f BEGIN SET l 1 LABEL l END END", NAME);
        Harness.dueCompile("BEGIN VAR l PROC f BEGIN PROC g BEGIN PRINT REF l END PROC l BEGIN END END END", NAME);
    }

    private static void nearestWins() {
        // Fifteen bodies out to the main one, then a nearer declaration in each of them in turn.
        Harness.duePrints("BEGIN VAR a " + nested(15, "SET a ADD REF a 9 PRINT REF a") + " PRINT REF a END", 9, 9);
        for (int outside = 1; outside <= 14; outside++) {
            String inner = nested(14 - outside, "SET a ADD REF a 9 PRINT REF a");
            String hiding = "PROC b BEGIN VAR a " + inner + " PRINT REF a END CALL b DONE";
            Harness.duePrints("BEGIN VAR a " + nested(outside, hiding) + " PRINT REF a END", 9, 9, 0);
        }
        Harness.dueCompile("BEGIN " + nested(15, "PRINT REF a") + " END", NAME);
        Harness.duePrints("BEGIN VAR a PROC f PVAL a BEGIN PRINT REF a SET a 8 END SET a 2 CALL f ARGV 5 DONE PRINT REF a END", 5, 2);
        Harness.duePrints("BEGIN PROC g BEGIN PRINT 1 END PROC f BEGIN PROC g BEGIN PRINT 2 END CALL g DONE END CALL f DONE CALL g DONE END", 2, 1);
        Harness.duePrints("BEGIN PROC g BEGIN PRINT 1 END PROC h BEGIN PRINT 3 END PROC f PPROC g BEGIN CALL g DONE END "
            + "CALL f ARGP h DONE CALL g DONE END", 3, 1);
        // The nearest wins even where only the farther one would fit the use.
        Harness.dueCompile("BEGIN VAR a PROC f PPROC a BEGIN SET a 1 END END", NAME);
        Harness.dueCompile("BEGIN PROC g BEGIN END PROC f BEGIN VAR g CALL g DONE END END", NAME);
        Harness.dueCompile("BEGIN PROC f BEGIN VAR l GOTO l END LABEL l END", NAME);
    }

    private static void categories() {
        // Each use with each kind of declaration, in the body that declares it and in the body inside.
        String own = "BEGIN PROC o PVAL b PPROC d BEGIN VAR a PROC c BEGIN %s END %s LABEL e END END";
        String[] names = {"a", "b", "c", "d", "e"};
        String[] uses = {"SET %s 1", "PRINT REF %s", "CALL %s DONE", "CALL o ARGP %s DONE", "GOTO %s"};
        String[] fitting = {"ab", "ab", "cd", "cd", "e"};
        for (String name : names) {
            for (int i = 0; i < uses.length; i++) {
                int due = fitting[i].contains(name) ? OK : NAME;
                String use = String.format(uses[i], name);
                Harness.dueCompile(String.format(own, "", use), due);
                Harness.dueCompile(String.format(own, use, ""), due);
            }
        }
    }

    private static void oneValueEach() {
        StringBuilder declare = new StringBuilder();
        StringBuilder set = new StringBuilder();
        StringBuilder print = new StringBuilder();
        for (int i = 0; i < 8; i++) {
            String name = "" + (char) ('a' + i);
            declare.append("VAR ").append(name).append(' ');
            set.append("SET ").append(name).append(" ").append(10 + i).append(' ');
            print.append("PRINT REF ").append(name).append(' ');
        }
        Harness.duePrints("BEGIN " + declare + set + print + "END", 10, 11, 12, 13, 14, 15, 16, 17);
        Harness.duePrints("BEGIN PROC p BEGIN " + declare + set + print + "END CALL p DONE END", 10, 11, 12, 13, 14, 15, 16, 17);
        Harness.duePrints("BEGIN PROC f PPROC a PPROC b PPROC c PPROC d BEGIN CALL d DONE CALL b DONE CALL a DONE CALL c DONE END "
            + "PROC g BEGIN PRINT 1 END PROC h BEGIN PRINT 2 END PROC i BEGIN PRINT 3 END PROC j BEGIN PRINT 4 END "
            + "CALL f ARGP g ARGP h ARGP i ARGP j DONE END", 4, 2, 1, 3);
        // Sixteen activations of one body, each with its own int.
        Harness.duePrints("BEGIN PROC f PVAL n BEGIN VAR a SET a MUL REF n 3 IF REF n CALL f ARGV SUB REF n 1 DONE FI PRINT REF a END "
            + "CALL f ARGV 15 DONE END", 0, 3, 6, 9, 12, 15, 18, 21, 24, 27, 30, 33, 36, 39, 42, 45);
    }

    private static void finding() {
        // Fifteen bodies hold a variable each, and the sixteenth, inside them all, reads every one.
        String names = "acdefghijklmnop";
        StringBuilder text = new StringBuilder();
        int[] due = new int[15];
        for (int i = 0; i < 15; i++) {
            text.append("PRINT REF ").append(names.charAt(i)).append(' ');
            due[i] = 100 + i;
        }
        for (int i = 14; i >= 0; i--) {
            String name = " " + names.charAt(i);
            text.insert(0, "VAR" + name + " PROC b BEGIN ").append("END SET" + name + " " + due[i] + " CALL b DONE ");
        }
        Harness.duePrints("BEGIN " + text + "END", due);
        // The parents are the static ones: the caller's own a is passed by.
        Harness.duePrints("BEGIN VAR a PROC g BEGIN PRINT REF a SET a 5 END PROC f PVAL n BEGIN VAR a SET a 7 "
            + "IF REF n CALL f ARGV SUB REF n 1 DONE ELSE CALL g DONE FI PRINT REF a END SET a 1 CALL f ARGV 2 DONE PRINT REF a END",
            1, 7, 7, 7, 5);
        // Among instances of one body the one that the parents lead to is meant, the oldest and the newest too.
        String chosen = "BEGIN PROC f PVAL n PPROC m BEGIN PROC g BEGIN PRINT REF n SET n 50 END "
            + "IF EQ REF n 0 CALL m DONE ELSE IF EQ REF n %d CALL f ARGV SUB REF n 1 ARGP g DONE ELSE CALL f ARGV SUB REF n 1 ARGP m DONE FI FI "
            + "PRINT REF n END PROC h BEGIN PRINT 99 END CALL f ARGV 3 ARGP h DONE END";
        Harness.duePrints(String.format(chosen, 3), 3, 0, 1, 2, 50);
        Harness.duePrints(String.format(chosen, 2), 2, 0, 1, 50, 3);
        Harness.duePrints(String.format(chosen, 1), 1, 0, 50, 2, 3);
        Harness.duePrints(String.format(chosen, 4), 99, 0, 1, 2, 3);
    }

    private static void valueOfProc() {
        // g is found in the activation of f that made it, and called when a newer one of f is live.
        Harness.duePrints("BEGIN PROC f PVAL n PPROC m BEGIN PROC g BEGIN PRINT REF n END "
            + "IF REF n CALL f ARGV 0 ARGP g DONE ELSE CALL m DONE CALL g DONE FI END PROC h BEGIN END CALL f ARGV 7 ARGP h DONE END", 7, 0);
        // Found fourteen parents away, the pair still names the main activation.
        Harness.duePrints("BEGIN VAR a PROC g BEGIN SET a ADD REF a 1 PRINT REF a END " + nested(14, "VAR a SET a 70 CALL g DONE PRINT REF a")
            + " CALL g DONE END", 1, 70, 2);
    }

    private static void valueOfPproc() {
        Harness.duePrints("BEGIN PROC f PPROC m BEGIN PROC g BEGIN PROC h BEGIN CALL m DONE END CALL h DONE END CALL g DONE END "
            + "PROC k BEGIN PRINT 4 END CALL f ARGP k DONE END", 4);
        // A stored value handed on is the same pair, not a new one of the activation that hands it on.
        Harness.duePrints("BEGIN PROC f PVAL n PPROC m BEGIN PROC g BEGIN PRINT REF n END IF EQ REF n 9 CALL f ARGV 8 ARGP g DONE ELSE "
            + "IF REF n CALL f ARGV SUB REF n 1 ARGP m DONE ELSE CALL m DONE FI FI END PROC h BEGIN PRINT 99 END CALL f ARGV 9 ARGP h DONE END", 9);
        // The PPROC of the activation found, not of the newest one.
        Harness.duePrints("BEGIN PROC f PVAL n PPROC m BEGIN PROC g BEGIN CALL m DONE END "
            + "IF EQ REF n 2 CALL f ARGV 1 ARGP g DONE ELSE IF EQ REF n 1 CALL f ARGV 0 ARGP m DONE ELSE CALL m DONE FI FI END "
            + "PROC h BEGIN PRINT 99 END CALL f ARGV 2 ARGP h DONE END", 99);
    }

    private static void depthCounts() {
        NonLocalJump x = Harness.compiled("BEGIN PROC f PVAL n BEGIN IF REF n CALL f ARGV SUB REF n 1 DONE PRINT 1 FI END "
            + "PRINT 1 CALL f ARGV 15 DONE PRINT 2 END");
        Harness.due("only the main activation: depth()", x.depth(), 0);
        x.run(1);
        Harness.due("still only the main activation: depth()", x.depth(), 0);
        for (int live = 1; live <= 16; live++) {
            x.run(1);
            Harness.due("after call " + live + ": depth()", x.depth(), live);
            x.run(1);
            Harness.due("after the IF in call " + live + ": depth()", x.depth(), live == 16 ? 15 : live);
        }
        for (int live = 14; live >= 0; live--) {
            x.run(1);
            Harness.due("after a return: depth()", x.depth(), live);
        }
        Harness.due("the end: run(1)", x.run(1), NonLocalJump.S_DONE);
        Harness.due("the end: depth()", x.depth(), 0);
    }
}
