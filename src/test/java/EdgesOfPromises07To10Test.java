/** Promises 7 to 10: each sentence that names an edge has a test of its own. A ".." stands where the document's words are left out. */
public final class EdgesOfPromises07To10Test {
    private static final int MIN = Integer.MIN_VALUE;
    private static final int MAX = Integer.MAX_VALUE;
    private static final int EDIT = NonLocalJump.S_EDIT;
    private static final int RUNNING = NonLocalJump.S_RUNNING;
    private static final int DONE = NonLocalJump.S_DONE;
    private static final int TRAP = NonLocalJump.S_TRAP;
    private static final int[] NO_NAMES = {MIN, MIN + 1, -256, -17, -16, -15, -2, -1, 16, 17, 18, 31, 32, 255, 256, 65536, MAX - 1, MAX};

    public static void main(String[] args) {
        Harness.sentence("The read-back methods may be called in any status", EdgesOfPromises07To10Test::readInAnyStatus);
        outputs();
        mainVariables();
        seenVariables();
        resets();
        Harness.finish();
    }

    private static void outputs() {
        Harness.sentence("outputCount() answers the count of values printed since the last successful compile, 0..MAX_OUTPUT",
            EdgesOfPromises07To10Test::outputCounts);
        Harness.sentence("it is 0 in S_EDIT. (outputCount)", EdgesOfPromises07To10Test::outputCountInEdit);
        Harness.sentence("output(i) answers the i-th printed value, the first being i = 0, if 0 <= i < outputCount()",
            EdgesOfPromises07To10Test::outputInside);
        Harness.sentence("for any other int i, negative .. it answers 0.", EdgesOfPromises07To10Test::outputNegative);
        Harness.sentence("for any other int i .. too large, it answers 0.", EdgesOfPromises07To10Test::outputTooLarge);
        Harness.sentence("Neither changes anything. (Promise 7)", EdgesOfPromises07To10Test::askingOutput);
    }

    private static void mainVariables() {
        Harness.sentence("if status() is not S_EDIT, name is in 0..15, and the main body declares name by VAR, answers the current value of that variable "
            + "in the main activation", EdgesOfPromises07To10Test::mainVarCurrent);
        Harness.sentence("this holds also in S_DONE and S_TRAP.", EdgesOfPromises07To10Test::mainVarAtTheEnd);
        Harness.sentence("if status() is not S_EDIT .. In every other case .. it answers 0. (mainVar in S_EDIT)", EdgesOfPromises07To10Test::mainVarInEdit);
        Harness.sentence("(including a main-body name that is a label or procedure ..", EdgesOfPromises07To10Test::mainVarOtherCategory);
        Harness.sentence("In every other case .. it answers 0. (not declared in the main body)", EdgesOfPromises07To10Test::mainVarNotDeclared);
        Harness.sentence("and any name outside 0..15) it answers 0.", EdgesOfPromises07To10Test::mainVarNoName);
        Harness.sentence("It changes nothing. (Promise 8)", EdgesOfPromises07To10Test::askingMainVar);
    }

    private static void seenVariables() {
        Harness.sentence("and the nearest declaration of name as seen from the body of the newest live activation C is a variable (VAR or PVAL), "
            + "answers the value of that variable in the activation found for name from C.", EdgesOfPromises07To10Test::seenNearest);
        Harness.sentence("In every other case (another status ..", EdgesOfPromises07To10Test::seenInOtherStatus);
        Harness.sentence("a name outside 0..15", EdgesOfPromises07To10Test::seenNoName);
        Harness.sentence("no declaration in reach", EdgesOfPromises07To10Test::seenOutOfReach);
        Harness.sentence("or a nearest declaration that is a procedure or label) it answers 0.", EdgesOfPromises07To10Test::seenOtherCategory);
        Harness.sentence("It changes nothing. (Promise 9)", EdgesOfPromises07To10Test::askingSeen);
    }

    private static void resets() {
        Harness.sentence("reset() works in any status.", EdgesOfPromises07To10Test::resetInAnyStatus);
        Harness.sentence("It drops all tokens, output and run state: status S_EDIT, tokenCount() 0, outputCount() 0, trap() T_NONE, executed() 0, depth() 0.",
            EdgesOfPromises07To10Test::resetDropsAll);
        Harness.sentence("The depth limit stays.", EdgesOfPromises07To10Test::resetKeepsLimit);
        Harness.sentence("Afterwards the object behaves as a fresh one made with the same constructor argument.", EdgesOfPromises07To10Test::resetIsFresh);
    }

    private static void readInAnyStatus() {
        for (int status = 0; status <= 3; status++) {
            NonLocalJump x = Harness.inStatus(status, 16);
            Harness.dueLife("in status " + status, x, status);
            Harness.dueLife("in status " + status + " again", x, status);
        }
    }

    private static void outputCounts() {
        NonLocalJump x = Harness.compiled("BEGIN " + Harness.repeat("PRINT 5", 34) + "END");
        for (int count = 0; count <= 32; count++) {
            Harness.due("outputCount()", x.outputCount(), count);
            x.run(1);
        }
        Harness.due("outputCount() after the 33rd PRINT", x.outputCount(), 32);
        x.run(5);
        Harness.due("outputCount() after the trap", x.outputCount(), 32);
        // Since the last successful compile: a refused one changes nothing, a new one begins at 0.
        NonLocalJump y = Harness.compiled("BEGIN PRINT 1 PRINT 2 PRINT 3 END");
        y.run(2);
        y.compile();
        Harness.due("outputCount() after a refused compile", y.outputCount(), 2);
        y.run(1);
        Harness.due("outputCount() at the end", y.outputCount(), 3);
        y.reset();
        Harness.feed(y, "BEGIN PRINT 9 END");
        y.compile();
        Harness.due("outputCount() of the next program", y.outputCount(), 0);
        y.run(1);
        Harness.dueOutput("the next program", y, 9);
    }

    private static void outputCountInEdit() {
        for (int status = 0; status <= 3; status++) {
            NonLocalJump x = Harness.inStatus(status, 5);
            x.reset();
            Harness.due("reset from status " + status + ": outputCount()", x.outputCount(), 0);
            Harness.feed(x, "BEGIN PRINT 1 PRINT REF a END");
            Harness.due("fed: outputCount()", x.outputCount(), 0);
            x.compile();
            x.run(5);
            Harness.due("after a failed compile and a refused run: outputCount()", x.outputCount(), 0);
        }
    }

    /** An object that has printed the values 101, 102, .. and can print more; its earlier life has filled the output. */
    private static NonLocalJump printed(int count) {
        NonLocalJump x = Harness.compiled("BEGIN LABEL l PRINT 7 GOTO l END");
        x.run(256);
        x.reset();
        Harness.feed(x, "BEGIN VAR i SET i 100 LABEL l SET i ADD REF i 1 PRINT REF i GOTO l END");
        x.compile();
        x.run(2);
        for (int i = 0; i < count; i++) {
            x.run(3);
        }
        return x;
    }

    private static void outputInside() {
        for (int count = 0; count <= 32; count++) {
            NonLocalJump x = printed(count);
            Harness.due("outputCount()", x.outputCount(), count);
            for (int i = 0; i < count; i++) {
                Harness.due("output(" + i + ") of " + count, x.output(i), 101 + i);
            }
        }
        // In every status that can have output.
        Harness.due("running: output(0)", Harness.inStatus(RUNNING, 5).output(0), 10);
        Harness.due("done: output(5)", Harness.inStatus(DONE, 5).output(5), 40);
        Harness.due("trapped: output(2)", Harness.inStatus(TRAP, 5).output(2), 30);
    }

    private static void outputNegative() {
        for (int count : new int[] {0, 1, 5, 31, 32}) {
            NonLocalJump x = printed(count);
            for (int i : new int[] {-1, -2, -31, -32, -33, -256, -65536, MIN + 1, MIN}) {
                Harness.due("output(" + i + ") of " + count, x.output(i), 0);
            }
        }
        Harness.due("output(-1) of a new object", new NonLocalJump(1).output(-1), 0);
    }

    private static void outputTooLarge() {
        for (int count = 0; count <= 32; count++) {
            NonLocalJump x = printed(count);
            for (int i = count; i <= 40; i++) {
                Harness.due("output(" + i + ") of " + count, x.output(i), 0);
            }
            for (int i : new int[] {255, 256, 257, 65536, MAX - 1, MAX}) {
                Harness.due("output(" + i + ") of " + count, x.output(i), 0);
            }
        }
        NonLocalJump y = Harness.inStatus(DONE, 5);
        Harness.due("done: output(6)", y.output(6), 0);
        y.reset();
        Harness.due("reset: output(0)", y.output(0), 0);
        Harness.due("output(0) of a new object", new NonLocalJump(1).output(0), 0);
    }

    private static void askingOutput() {
        for (int status = 0; status <= 3; status++) {
            NonLocalJump x = Harness.inStatus(status, 5);
            for (int i = -40; i < 40; i++) {
                int first = x.output(i);
                Harness.due("output(" + i + ") again", x.output(i), first);
                x.outputCount();
            }
            x.output(MIN);
            x.output(MAX);
            Harness.dueLife("outputCount() and output(i) asked", x, status);
            Harness.dueTwins("outputCount() and output(i) asked in status " + status, x, Harness.inStatus(status, 5));
        }
    }

    private static void mainVarCurrent() {
        for (int name = 0; name < 16; name++) {
            String n = "" + (char) ('a' + name);
            for (int value : new int[] {MIN, -1, 0, 1, MAX}) {
                NonLocalJump x = Harness.compiled("BEGIN VAR " + n + " SET " + n + " " + value + " SET " + n + " 5 PRINT 1 END");
                Harness.due("before the first SET: mainVar(" + name + ")", x.mainVar(name), 0);
                x.run(1);
                Harness.due("after the first SET: mainVar(" + name + ")", x.mainVar(name), value);
                x.run(1);
                Harness.due("after the second SET: mainVar(" + name + ")", x.mainVar(name), 5);
            }
        }
        // All eight, from sixteen calls deep, where each level hides some of them.
        NonLocalJump y = Harness.compiled("BEGIN VAR a VAR b VAR c VAR d VAR m VAR n VAR p PROC f PVAL n BEGIN VAR a SET a 77 "
            + "SET b ADD REF b 1 IF REF n CALL f ARGV SUB REF n 1 DONE FI PRINT 1 END SET a 11 SET p 12 SET n 13 CALL f ARGV 15 DONE END");
        y.run(3 + 64);
        Harness.due("deep: depth()", y.depth(), 16);
        int[] due = {11, 16, 0, 0, 0, 0, 0, 0, 0, 0, 0, 0, 0, 13, 0, 12};
        for (int name = 0; name < 16; name++) {
            Harness.due("deep: mainVar(" + name + ")", y.mainVar(name), due[name]);
        }
    }

    private static void mainVarAtTheEnd() {
        Harness.due("done: mainVar(0)", Harness.inStatus(DONE, 5).mainVar(0), 6);
        Harness.due("done: mainVar(1)", Harness.inStatus(DONE, 5).mainVar(1), 40);
        Harness.due("trapped: mainVar(0)", Harness.inStatus(TRAP, 5).mainVar(0), 6);
        Harness.due("trapped: mainVar(1)", Harness.inStatus(TRAP, 5).mainVar(1), 40);
        String[] traps = {"PRINT DIV 1 0", "CALL g ARGV 1 DONE", "CALL f DONE", "LABEL l PRINT 1 GOTO l"};
        for (String trap : traps) {
            NonLocalJump x = Harness.compiled("BEGIN VAR a VAR p PROC g BEGIN END PROC f BEGIN VAR a SET a 3 CALL f DONE END SET a 8 SET p 9 " + trap + " END");
            Harness.due("run(256)", x.run(256), TRAP);
            for (int again = 0; again < 2; again++) {
                Harness.due("after " + trap + ": mainVar(0)", x.mainVar(0), 8);
                Harness.due("after " + trap + ": mainVar(15)", x.mainVar(15), 9);
                x.run(256);
            }
        }
    }

    private static void mainVarInEdit() {
        for (int status = 0; status <= 3; status++) {
            NonLocalJump x = Harness.inStatus(status, 5);
            x.reset();
            for (int name = 0; name < 16; name++) {
                Harness.due("reset: mainVar(" + name + ")", x.mainVar(name), 0);
            }
            Harness.feed(x, "BEGIN VAR a VAR b SET a 4");
            Harness.due("fed: mainVar(0)", x.mainVar(0), 0);
            x.compile();
            Harness.due("after a failed compile: mainVar(0)", x.mainVar(0), 0);
            Harness.due("after a failed compile: mainVar(1)", x.mainVar(1), 0);
        }
        // The compile that fails for a name has seen the declarations by then.
        NonLocalJump y = Harness.inStatus(DONE, 5);
        y.reset();
        Harness.feed(y, "BEGIN VAR a VAR b SET a 4 GOTO c END");
        y.compile();
        Harness.due("after C_NAME: mainVar(0)", y.mainVar(0), 0);
        Harness.due("after C_NAME: mainVar(1)", y.mainVar(1), 0);
    }

    private static void mainVarOtherCategory() {
        for (int name = 0; name < 16; name++) {
            String n = " " + (char) ('a' + name) + " ";
            // A variable of an earlier program has left a value at this name.
            NonLocalJump x = Harness.compiled("BEGIN VAR" + n + "SET" + n + "5 END");
            x.run(1);
            x.reset();
            Harness.feed(x, "BEGIN PROC" + n + "BEGIN PRINT 1 END CALL" + n + "DONE END");
            x.compile();
            NonLocalJump y = Harness.compiled("BEGIN VAR" + n + "SET" + n + "5 END");
            y.run(1);
            y.reset();
            Harness.feed(y, "BEGIN LABEL" + n + "PRINT 1 PRINT 2 END");
            y.compile();
            for (int i = 0; i < 4; i++) {
                Harness.due("a procedure: mainVar(" + name + ")", x.mainVar(name), 0);
                Harness.due("a label: mainVar(" + name + ")", y.mainVar(name), 0);
                x.run(1);
                y.run(1);
            }
        }
        // The fifteenth procedure and a late label, so that what is held for them inside is not 0.
        NonLocalJump z = Harness.compiled("BEGIN VAR a PROC b BEGIN PROC a BEGIN END PROC b BEGIN END END PROC c BEGIN END PROC d BEGIN END "
            + "PRINT 1 LABEL e PRINT 2 LABEL p PRINT 3 END");
        for (int i = 0; i < 6; i++) {
            for (int name = 0; name < 16; name++) {
                Harness.due("mainVar(" + name + ")", z.mainVar(name), 0);
            }
            z.run(1);
        }
    }

    private static void mainVarNotDeclared() {
        // A name that is a variable elsewhere: a VAR and a PVAL of a procedure, seen but not the main body's.
        NonLocalJump x = Harness.compiled("BEGIN VAR a PROC f PVAL b PPROC d BEGIN VAR c SET c 4 SET b 5 PRINT 1 END SET a 3 CALL f ARGV 9 ARGP f DONE END");
        x.run(4);
        Harness.due("seen(1)", x.seen(1), 5);
        Harness.due("seen(2)", x.seen(2), 4);
        for (int name = 0; name < 16; name++) {
            Harness.due("mainVar(" + name + ")", x.mainVar(name), name == 0 ? 3 : 0);
        }
        // A name that was a variable of the program before.
        NonLocalJump y = Harness.inStatus(DONE, 5);
        y.reset();
        Harness.feed(y, "BEGIN VAR c PRINT 1 END");
        y.compile();
        Harness.due("of the program before: mainVar(0)", y.mainVar(0), 0);
        Harness.due("of the program before: mainVar(1)", y.mainVar(1), 0);
        // A procedure's VAR that hides nothing of main's.
        NonLocalJump z = Harness.compiled("BEGIN PROC f BEGIN VAR a SET a 6 PRINT 1 END CALL f DONE END");
        z.run(2);
        Harness.due("a procedure's VAR: mainVar(0)", z.mainVar(0), 0);
    }

    private static void mainVarNoName() {
        for (int status = 0; status <= 3; status++) {
            NonLocalJump x = Harness.inStatus(status, 5);
            for (int name : NO_NAMES) {
                Harness.due("mainVar(" + name + ") in status " + status, x.mainVar(name), 0);
            }
        }
        NonLocalJump y = Harness.compiled("BEGIN VAR a VAR p PROC f BEGIN VAR a VAR p SET a 3 SET p 4 PRINT 1 END SET a 1 SET p 2 CALL f DONE END");
        y.run(5);
        for (int name : NO_NAMES) {
            Harness.due("all names are used: mainVar(" + name + ")", y.mainVar(name), 0);
        }
    }

    private static void askingMainVar() {
        for (int status = 0; status <= 3; status++) {
            NonLocalJump x = Harness.inStatus(status, 5);
            for (int name = -20; name < 40; name++) {
                int first = x.mainVar(name);
                Harness.due("mainVar(" + name + ") again", x.mainVar(name), first);
            }
            x.mainVar(MIN);
            x.mainVar(MAX);
            Harness.dueLife("mainVar(name) asked", x, status);
            Harness.dueTwins("mainVar(name) asked in status " + status, x, Harness.inStatus(status, 5));
        }
    }

    private static void seenNearest() {
        for (int name = 0; name < 16; name++) {
            String n = " " + (char) ('a' + name) + " ";
            String f = name == 5 ? " g " : " f ";
            NonLocalJump x = Harness.compiled("BEGIN VAR" + n + "PROC" + f + "PVAL" + n + "BEGIN SET" + n + "3 PRINT 1 END SET" + n + "1 CALL" + f + "ARGV 2 DONE PRINT 1 END");
            int[] due = {0, 1, 2, 3, 1, 0};
            for (int i = 0; i < due.length; i++) {
                Harness.due("statement " + i + ": seen(" + name + ")", x.seen(name), due[i]);
                x.run(1);
            }
        }
        // Out to the main body, fifteen bodies away.
        String text = "SET a ADD REF a 1 PRINT 1";
        for (int i = 0; i < 15; i++) {
            text = "PROC b BEGIN " + text + " END CALL b DONE";
        }
        NonLocalJump deep = Harness.compiled("BEGIN VAR a " + text + " END");
        deep.run(16);
        Harness.due("fifteen bodies in: depth()", deep.depth(), 15);
        Harness.due("fifteen bodies in: seen(0)", deep.seen(0), 1);
        // The activation found, among instances of the same body, and not the caller's.
        NonLocalJump y = Harness.compiled("BEGIN PROC f PVAL n PPROC m BEGIN PROC g BEGIN PRINT REF n END IF EQ REF n 3 CALL f ARGV 2 ARGP g DONE ELSE "
            + "IF REF n CALL f ARGV SUB REF n 1 ARGP m DONE ELSE CALL m DONE FI FI END PROC h BEGIN END CALL f ARGV 3 ARGP h DONE END");
        for (int i = 0; i < 40 && y.depth() < 5; i++) {
            y.run(1);
        }
        Harness.due("in g: depth()", y.depth(), 5);
        Harness.due("in g: seen(13)", y.seen(13), 3);
    }

    private static void seenInOtherStatus() {
        for (int status : new int[] {EDIT, DONE, TRAP}) {
            NonLocalJump x = Harness.inStatus(status, 5);
            for (int name = 0; name < 16; name++) {
                Harness.due("seen(" + name + ") in status " + status, x.seen(name), 0);
            }
        }
        NonLocalJump y = Harness.compiled("BEGIN VAR a SET a 5 SET a 6 END");
        y.run(1);
        Harness.due("running: seen(0)", y.seen(0), 5);
        y.run(1);
        Harness.due("done: seen(0)", y.seen(0), 0);
        Harness.due("done: mainVar(0)", y.mainVar(0), 6);
        y.reset();
        Harness.due("reset: seen(0)", y.seen(0), 0);
        Harness.feed(y, "BEGIN VAR a GOTO b END");
        y.compile();
        Harness.due("after C_NAME: seen(0)", y.seen(0), 0);
        NonLocalJump z = Harness.compiled("BEGIN VAR a SET a 5 PRINT DIV 1 0 END");
        z.run(2);
        Harness.due("trapped: seen(0)", z.seen(0), 0);
    }

    private static void seenNoName() {
        for (int status = 0; status <= 3; status++) {
            NonLocalJump x = Harness.inStatus(status, 5);
            for (int name : NO_NAMES) {
                Harness.due("seen(" + name + ") in status " + status, x.seen(name), 0);
            }
        }
        NonLocalJump y = Harness.compiled("BEGIN VAR a VAR p PROC f BEGIN VAR a VAR p SET a 3 SET p 4 PRINT 1 END SET a 1 SET p 2 CALL f DONE END");
        y.run(5);
        Harness.due("all names are used: seen(15)", y.seen(15), 4);
        for (int name : NO_NAMES) {
            Harness.due("all names are used: seen(" + name + ")", y.seen(name), 0);
        }
    }

    private static void seenOutOfReach() {
        // Declared in a body inside, in one beside, in the caller, in a program before, or nowhere.
        NonLocalJump x = Harness.compiled("BEGIN VAR a PROC f BEGIN VAR b PROC g BEGIN VAR c SET c 3 PRINT 1 END SET b 2 CALL g DONE CALL h DONE PRINT 1 END "
            + "PROC h BEGIN VAR d SET d 4 PRINT 1 END SET a 1 CALL f DONE PRINT 1 END");
        int[][] due = {{0, 0, 0, 0}, {1, 0, 0, 0}, {1, 0, 0, 0}, {1, 2, 0, 0}, {1, 2, 0, 0}, {1, 2, 3, 0}, {1, 2, 0, 0}, {1, 0, 0, 0}, {1, 0, 0, 4},
            {1, 2, 0, 0}, {1, 0, 0, 0}};
        for (int step = 0; step < due.length; step++) {
            for (int name = 0; name < 16; name++) {
                Harness.due("after statement " + step + ": seen(" + name + ")", x.seen(name), name < 4 ? due[step][name] : 0);
            }
            x.run(1);
        }
        NonLocalJump y = Harness.compiled("BEGIN VAR a VAR b SET a 5 SET b 6 END");
        y.run(2);
        y.reset();
        Harness.feed(y, "BEGIN VAR c SET c 7 PRINT 1 END");
        y.compile();
        y.run(1);
        Harness.due("of the program before: seen(0)", y.seen(0), 0);
        Harness.due("of the program before: seen(1)", y.seen(1), 0);
        Harness.due("of this program: seen(2)", y.seen(2), 7);
    }

    private static void seenOtherCategory() {
        // In main a to e are variables; inside they are hidden by a PROC, a PPROC and a LABEL, and d and e stay in sight.
        NonLocalJump x = Harness.compiled("BEGIN VAR a VAR b VAR c VAR d VAR e PROC f PPROC b PVAL e BEGIN PROC a BEGIN PRINT 1 END SET d 8 CALL a DONE LABEL c PRINT 1 END "
            + "SET a 1 SET b 2 SET c 3 SET d 4 SET e 5 CALL f ARGP f ARGV 6 DONE PRINT 1 END");
        int[][] due = {{1, 2, 3, 4, 5, 0}, {0, 0, 0, 4, 6, 0}, {0, 0, 0, 8, 6, 0}, {0, 0, 0, 8, 6, 0}, {0, 0, 0, 8, 6, 0}, {0, 0, 0, 8, 6, 0}, {1, 2, 3, 8, 5, 0}};
        x.run(4);
        for (int[] step : due) {
            x.run(1);
            for (int name = 0; name < step.length; name++) {
                Harness.due("seen(" + name + ") after statement " + x.executed(), x.seen(name), step[name]);
            }
        }
        for (int name = 0; name < 16; name++) {
            String n = " " + (char) ('a' + name) + " ";
            NonLocalJump procedure = Harness.compiled("BEGIN PROC" + n + "BEGIN END PRINT 1 PRINT 2 END");
            NonLocalJump label = Harness.compiled("BEGIN PRINT 1 LABEL" + n + "PRINT 2 END");
            for (int i = 0; i < 3; i++) {
                Harness.due("a procedure: seen(" + name + ")", procedure.seen(name), 0);
                Harness.due("a label: seen(" + name + ")", label.seen(name), 0);
                procedure.run(1);
                label.run(1);
            }
        }
    }

    private static void askingSeen() {
        for (int status = 0; status <= 3; status++) {
            NonLocalJump x = Harness.inStatus(status, 5);
            for (int name = -20; name < 40; name++) {
                int first = x.seen(name);
                Harness.due("seen(" + name + ") again", x.seen(name), first);
            }
            x.seen(MIN);
            x.seen(MAX);
            Harness.dueLife("seen(name) asked", x, status);
            Harness.dueTwins("seen(name) asked in status " + status, x, Harness.inStatus(status, 5));
        }
    }

    private static void resetInAnyStatus() {
        for (int status = 0; status <= 3; status++) {
            NonLocalJump x = Harness.inStatus(status, 5);
            for (int again = 0; again < 3; again++) {
                x.reset();
                Harness.due("reset from status " + status + ": status()", x.status(), EDIT);
                Harness.due("reset from status " + status + ": tokenCount()", x.tokenCount(), 0);
            }
            Harness.feed(x, "BEGIN PRINT 6 END");
            Harness.due("compile() after it", x.compile(), NonLocalJump.C_OK);
            Harness.due("run(1) after it", x.run(1), DONE);
            Harness.dueOutput("the program after it", x, 6);
        }
        NonLocalJump y = new NonLocalJump(5);
        y.reset();
        Harness.dueTwins("reset of a new object", y, new NonLocalJump(5));
    }

    private static void resetDropsAll() {
        NonLocalJump[] lives = {new NonLocalJump(5), Harness.inStatus(EDIT, 5), Harness.inStatus(RUNNING, 5), Harness.inStatus(DONE, 5),
            Harness.inStatus(TRAP, 5), Harness.feed(new NonLocalJump(5), Harness.repeat("IF", 256)), Harness.compiled("BEGIN LABEL l PRINT 4 GOTO l END"),
            Harness.compiled("BEGIN PROC f BEGIN CALL f DONE END CALL f DONE END"), Harness.compiled("BEGIN PROC f BEGIN END CALL f ARGV 1 DONE END")};
        for (NonLocalJump x : lives) {
            x.run(256);
            x.reset();
            Harness.dueState("reset", x, EDIT, NonLocalJump.T_NONE, 0, 0);
            Harness.due("reset: tokenCount()", x.tokenCount(), 0);
            Harness.dueOutput("reset", x);
            for (int i = 0; i < 33; i++) {
                Harness.due("reset: output(" + i + ")", x.output(i), 0);
                Harness.due("reset: mainVar(" + i + ")", x.mainVar(i), 0);
                Harness.due("reset: seen(" + i + ")", x.seen(i), 0);
            }
            Harness.due("reset: run(1)", x.run(1), EDIT);
            Harness.due("reset: compile()", x.compile(), NonLocalJump.C_SYNTAX);
        }
    }

    private static void resetKeepsLimit() {
        for (int limit : new int[] {MIN, 0, 1, 2, 3, 8, 15, 16, 17, MAX}) {
            int kept = Math.max(1, Math.min(16, limit));
            NonLocalJump x = new NonLocalJump(limit);
            for (int again = 0; again < 4; again++) {
                x.reset();
                Harness.due("limit " + limit + " after " + (again + 1) + " resets", Harness.depthLimit(x), kept);
            }
        }
        for (int status = 0; status <= 3; status++) {
            NonLocalJump y = Harness.inStatus(status, 4);
            y.reset();
            Harness.due("limit 4 after reset from status " + status, Harness.depthLimit(y), 4);
        }
    }

    private static void resetIsFresh() {
        String[] next = {"BEGIN VAR a VAR b PROC f PVAL c BEGIN VAR d PRINT REF d PRINT REF c SET d 9 IF LT REF c 3 CALL f ARGV ADD REF c 1 DONE FI END "
                + "PRINT REF a PRINT REF b CALL f ARGV 1 DONE SET b 5 END",
            "BEGIN VAR l VAR f PROC a PPROC b BEGIN VAR c CALL b DONE GOTO d END PROC g BEGIN PRINT REF f SET f 2 END CALL a ARGP g DONE PRINT 1 LABEL d PRINT REF l END",
            "BEGIN PRINT REF a END", "BEGIN VAR a SET b 1 END", "BEGIN GOTO l END", "BEGIN CALL f DONE END", "BEGIN VAR a", "BEGIN LABEL l LABEL l END",
            "BEGIN PRINT 1 END END", "BEGIN PROC f BEGIN END CALL f ARGV 1 DONE END", "BEGIN LABEL l PRINT 2 GOTO l END"};
        for (int status = 0; status <= 3; status++) {
            for (String program : next) {
                NonLocalJump x = Harness.inStatus(status, 3);
                x.reset();
                NonLocalJump fresh = new NonLocalJump(3);
                Harness.dueSame("reset from status " + status, x, fresh);
                Harness.feed(x, program);
                Harness.feed(fresh, program);
                Harness.dueTwins("reset from status " + status + ", then " + program, x, fresh);
            }
        }
        // A full object has all its room again, to the last token.
        NonLocalJump y = Harness.feed(new NonLocalJump(3), Harness.repeat("END", 256));
        y.reset();
        for (int i = 0; i < 256; i++) {
            Harness.due("token number " + i + " after reset", y.token(NonLocalJump.K_IF, 0), true);
        }
        Harness.due("token number 256 after reset", y.token(NonLocalJump.K_IF, 0), false);
    }
}
