/** Promises 2 to 5: append, change, clear and size. */
public final class ProgramTest {
    private static final Due due = new Due();
    private static final int[] WITHOUT_NUMBER = {
        Due.ADD, Due.SUB, Due.MUL, Due.LESS, Due.DUP, Due.SWAP, Due.DROP, Due.SPIN, Due.GAS, Due.HALT};

    public static void main(String[] args) {
        appendAnswersTheNumber();
        appendTakesTheEdges();
        appendRefusesBeyondTheEdges();
        appendTakesAnyNumberWhereThereIsNone();
        appendFindsItFull();
        changeAnswersTheOpBefore();
        changeRefuses();
        changeWorksInAFullProgram();
        changedInstructionIsWhatRuns();
        clearRemovesInstructionsAlone();
        due.end();
    }

    private static void appendAnswersTheNumber() {
        GasMeter m = new GasMeter();
        for (int i = 0; i < 20; i++) {
            due.is("size before append " + i, m.size(), i);
            due.is("append " + i, m.append(i % 15, 1), i);
        }
        due.is("size", m.size(), 20);
    }

    private static void accepts(int op, int a, boolean wanted) {
        GasMeter m = Due.with(Due.HALT, 0);
        due.is("append(" + op + ", " + a + ")", m.append(op, a), wanted ? 1 : GasMeter.BAD_ARG);
        due.is("size after append(" + op + ", " + a + ")", m.size(), wanted ? 2 : 1);
        GasMeter c = Due.with(Due.HALT, 0);
        due.is("change(0, " + op + ", " + a + ")", c.change(0, op, a), wanted ? Due.HALT : GasMeter.BAD_ARG);
        due.is("size after change", c.size(), 1);
        due.is("op after change(0, " + op + ", " + a + ")", c.change(0, Due.HALT, 0), wanted ? op : Due.HALT);
    }

    private static void appendTakesTheEdges() {
        for (int n = -100; n <= 100; n++) {
            accepts(Due.PUSH, n, true);
        }
        for (int v = 0; v <= 3; v++) {
            accepts(Due.GET, v, true);
            accepts(Due.SET, v, true);
        }
        for (int k = 0; k <= 20; k++) {
            accepts(Due.JUMP, k, true);
            accepts(Due.BRANCH, k, true);
        }
    }

    private static void appendRefusesBeyondTheEdges() {
        for (int a : new int[] {-101, 101, Integer.MIN_VALUE, Integer.MAX_VALUE}) {
            accepts(Due.PUSH, a, false);
        }
        for (int a : new int[] {-1, 4, Integer.MIN_VALUE, Integer.MAX_VALUE}) {
            accepts(Due.GET, a, false);
            accepts(Due.SET, a, false);
        }
        for (int a : new int[] {-1, 21, Integer.MIN_VALUE, Integer.MAX_VALUE}) {
            accepts(Due.JUMP, a, false);
            accepts(Due.BRANCH, a, false);
        }
        for (int op : new int[] {-1, 15, 16, Integer.MIN_VALUE, Integer.MAX_VALUE}) {
            accepts(op, 0, false);
        }
    }

    private static void appendTakesAnyNumberWhereThereIsNone() {
        for (int op : WITHOUT_NUMBER) {
            for (int a : new int[] {0, -1, 101, -101, Integer.MIN_VALUE, Integer.MAX_VALUE}) {
                accepts(op, a, true);
            }
        }
    }

    private static GasMeter fullOfHalts() {
        GasMeter m = new GasMeter();
        for (int i = 0; i < 20; i++) {
            m.append(Due.HALT, 0);
        }
        return m;
    }

    private static void appendFindsItFull() {
        GasMeter m = fullOfHalts();
        due.is("append to 20", m.append(Due.HALT, 0), GasMeter.FULL);
        due.is("append a bad op to 20", m.append(15, 0), GasMeter.BAD_ARG);
        due.is("append a bad number to 20", m.append(Due.PUSH, 101), GasMeter.BAD_ARG);
        due.is("size", m.size(), 20);
        m.clear();
        due.is("append after clear", m.append(Due.HALT, 0), 0);
    }

    private static void changeAnswersTheOpBefore() {
        GasMeter m = new GasMeter();
        for (int op = 0; op < 15; op++) {
            m.append(op, 0);
        }
        for (int op = 0; op < 15; op++) {
            due.is("change " + op, m.change(op, 14 - op, 1), op);
        }
        for (int op = 0; op < 15; op++) {
            due.is("change again " + op, m.change(op, 0, 0), 14 - op);
        }
    }

    private static void changeRefuses() {
        GasMeter m = Due.with(Due.PUSH, 1, Due.PUSH, 2);
        m.fund(100);
        for (int i : new int[] {-1, 2, 3, 19, 20, Integer.MIN_VALUE, Integer.MAX_VALUE}) {
            due.is("change(" + i + ")", m.change(i, Due.HALT, 0), GasMeter.BAD_ARG);
        }
        due.is("change to a bad op", m.change(0, 15, 0), GasMeter.BAD_ARG);
        due.is("change to a bad number", m.change(1, Due.PUSH, -101), GasMeter.BAD_ARG);
        due.is("change in nothing", new GasMeter().change(0, Due.HALT, 0), GasMeter.BAD_ARG);
        m.run();
        due.is("run after refused changes", Due.lastRun(m), "ending 1 place 2 steps 2 spent 4 pile [1 2]");
        m.clear();
        due.is("change after clear", m.change(0, Due.HALT, 0), GasMeter.BAD_ARG);
    }

    private static void changeWorksInAFullProgram() {
        GasMeter m = fullOfHalts();
        due.is("change 19 of 20", m.change(19, Due.PUSH, 5), Due.HALT);
        due.is("change 20 of 20", m.change(20, Due.PUSH, 5), GasMeter.BAD_ARG);
        due.is("change 0 of 20", m.change(0, Due.JUMP, 19), Due.HALT);
        m.fund(6);
        m.run();
        due.is("run", Due.lastRun(m), "ending 1 place 20 steps 2 spent 6 pile [5]");
    }

    private static void changedInstructionIsWhatRuns() {
        GasMeter m = Due.with(Due.PUSH, 1, Due.PUSH, 2, Due.PUSH, 3);
        m.fund(100);
        m.change(1, Due.PUSH, -100);
        m.run();
        due.is("run", Due.lastRun(m), "ending 1 place 3 steps 3 spent 6 pile [1 -100 3]");
    }

    private static void clearRemovesInstructionsAlone() {
        GasMeter m = Due.with(Due.PUSH, 4, Due.SET, 3, Due.PUSH, 6, Due.ADD, 0);
        m.fund(100);
        m.run();
        m.clear();
        due.is("after clear", Due.everything(m),
            "size 0 gas 92 variables 0 0 0 4 ending 3 place 3 steps 3 spent 8 pile [6]");
        m.clear();
        due.is("size after a second clear", m.size(), 0);
        due.is("bill after clear", m.bill(), 0);
        due.is("run after clear", m.run(), GasMeter.HALTED);
        due.is("after that run", Due.everything(m),
            "size 0 gas 92 variables 0 0 0 4 ending 1 place 0 steps 0 spent 0 pile []");
        Due.load(m, Due.GET, 3);
        m.run();
        due.is("nothing of the old program runs", Due.lastRun(m), "ending 1 place 1 steps 1 spent 3 pile [4]");
    }
}
