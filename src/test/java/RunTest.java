/** Promises 10 to 16 and 18: runs as wholes, in which order they end, and what is answered of the last one. */
public final class RunTest {
    private static final Due due = new Due();

    public static void main(String[] args) {
        beforeAnyRun();
        answersHowItEnded();
        endsPastTheProgram();
        haltedBeforeTired();
        tiredBeforeTrappedAndBroke();
        haltAsTheLastStep();
        trappedBeforeBroke();
        brokeKeepsWhatWasDone();
        runsBeginAnewButKeepVariablesAndGas();
        lastRunIsKept();
        pileOutOfRange();
        due.end();
    }

    private static void beforeAnyRun() {
        GasMeter m = Due.with(Due.PUSH, 1, Due.ADD, 0);
        m.fund(20);
        m.set(0, 4);
        m.bill();
        due.is("ending before a run", m.ending(), GasMeter.NO_RUN);
        due.is("place before a run", m.place(), 0);
        due.is("steps before a run", m.steps(), 0);
        due.is("spent before a run", m.spent(), 0);
        due.is("height before a run", m.height(), 0);
        due.is("pile(0) before a run", m.pile(0), 0);
    }

    private static void answersHowItEnded() {
        GasMeter m = Due.with(Due.JUMP, 0);
        due.is("run to BROKE", m.run(), GasMeter.BROKE);
        due.is("ending", m.ending(), GasMeter.BROKE);
        m.fund(2000);
        due.is("run to TIRED", m.run(), GasMeter.TIRED);
        due.is("ending", m.ending(), GasMeter.TIRED);
        m.change(0, Due.DROP, 0);
        due.is("run to TRAPPED", m.run(), GasMeter.TRAPPED);
        due.is("ending", m.ending(), GasMeter.TRAPPED);
        m.change(0, Due.HALT, 0);
        due.is("run to HALTED", m.run(), GasMeter.HALTED);
        due.is("ending", m.ending(), GasMeter.HALTED);
    }

    private static void endsPastTheProgram() {
        for (int k = 1; k <= 20; k++) {
            GasMeter m = Due.with(Due.JUMP, k);
            m.fund(4);
            m.run();
            due.is("jump " + k + " of one instruction", Due.lastRun(m),
                "ending 1 place " + k + " steps 1 spent 4 pile []");
        }
        GasMeter full = new GasMeter();
        for (int i = 0; i < 10; i++) {
            Due.load(full, Due.PUSH, i, Due.DROP, 0);
        }
        full.fund(30);
        full.run();
        due.is("through twenty", Due.lastRun(full), "ending 1 place 20 steps 20 spent 30 pile []");
    }

    /** Six steps and 19 gas a round, for as many rounds as variable 0 tells; instruction 6 comes after. */
    private static GasMeter rounds(int n) {
        GasMeter m = Due.with(Due.GET, 0, Due.PUSH, 1, Due.SUB, 0, Due.DUP, 0, Due.SET, 0, Due.BRANCH, 0);
        m.set(0, n);
        return m;
    }

    private static void haltedBeforeTired() {
        GasMeter m = rounds(50);
        m.fund(950);
        m.run();
        due.is("off the end after 300", Due.lastRun(m), "ending 1 place 6 steps 300 spent 950 pile []");
        due.is("gas", m.gas(), 0);
        GasMeter more = rounds(51);
        more.fund(2000);
        more.run();
        due.is("51 rounds", Due.lastRun(more), "ending 2 place 0 steps 300 spent 950 pile []");
        due.is("variable after 50 of 51 rounds", more.get(0), 1);
    }

    private static void tiredBeforeTrappedAndBroke() {
        int[][] next = {{Due.HALT, 0}, {Due.PUSH, 1}, {Due.ADD, 0}, {Due.SPIN, 0}, {Due.JUMP, 20}};
        for (int[] n : next) {
            GasMeter m = rounds(50);
            m.append(n[0], n[1]);
            m.fund(950);
            m.run();
            due.is("op " + n[0] + " after 300", Due.lastRun(m), "ending 2 place 6 steps 300 spent 950 pile []");
        }
    }

    private static void haltAsTheLastStep() {
        for (int before = 4; before <= 6; before++) {
            GasMeter m = rounds(49);
            for (int i = 0; i < before; i++) {
                m.append(Due.PUSH, 1);
            }
            m.append(Due.HALT, 0);
            m.fund(2000);
            m.run();
            due.is("halt after " + (294 + before), m.ending(), before <= 5 ? GasMeter.HALTED : GasMeter.TIRED);
            due.is("steps", m.steps(), before <= 5 ? 295 + before : 300);
            due.is("place", m.place(), 6 + before);
            due.is("spent", m.spent(), 931 + 2 * before);
        }
    }

    private static void trappedBeforeBroke() {
        GasMeter m = Due.with(Due.ADD, 0);
        m.run();
        due.is("add with neither numbers nor gas", Due.lastRun(m), "ending 3 place 0 steps 0 spent 0 pile []");
        m.fund(100);
        m.run();
        due.is("add without numbers", Due.lastRun(m), "ending 3 place 0 steps 0 spent 0 pile []");
        due.is("gas", m.gas(), 100);
    }

    private static void brokeKeepsWhatWasDone() {
        GasMeter m = Due.with(Due.PUSH, 8, Due.SET, 1, Due.PUSH, 5, Due.PUSH, 6, Due.MUL, 0);
        m.fund(14);
        due.is("run", m.run(), GasMeter.BROKE);
        due.is("after BROKE", Due.everything(m),
            "size 5 gas 4 variables 0 8 0 0 ending 4 place 4 steps 4 spent 10 pile [5 6]");
        due.is("run again", m.run(), GasMeter.BROKE);
        due.is("after BROKE again", Due.everything(m),
            "size 5 gas 2 variables 0 8 0 0 ending 4 place 1 steps 1 spent 2 pile [8]");
    }

    private static void runsBeginAnewButKeepVariablesAndGas() {
        GasMeter m = Due.with(Due.GET, 2, Due.PUSH, 3, Due.ADD, 0, Due.DUP, 0, Due.SET, 2);
        m.fund(100);
        m.run();
        due.is("first run", Due.everything(m),
            "size 5 gas 86 variables 0 0 3 0 ending 1 place 5 steps 5 spent 14 pile [3]");
        m.run();
        due.is("second run", Due.everything(m),
            "size 5 gas 72 variables 0 0 6 0 ending 1 place 5 steps 5 spent 14 pile [6]");
        m.change(0, Due.HALT, 0);
        m.run();
        due.is("third run", Due.everything(m),
            "size 5 gas 72 variables 0 0 6 0 ending 1 place 0 steps 1 spent 0 pile []");
    }

    private static void lastRunIsKept() {
        GasMeter m = Due.with(Due.PUSH, 11, Due.PUSH, 12, Due.DUP, 0, Due.SUB, 0, Due.SUB, 0, Due.SUB, 0);
        m.fund(30);
        m.run();
        String last = "ending 3 place 5 steps 5 spent 12 pile [11]";
        due.is("after the run", Due.lastRun(m), last);
        m.append(Due.HALT, 0);
        m.append(15, 0);
        m.change(0, Due.PUSH, 50);
        m.change(99, 0, 0);
        m.set(0, 1);
        m.set(4, 1);
        m.fund(7);
        m.fund(-1);
        m.bill();
        due.is("after other calls", Due.lastRun(m), last);
        m.clear();
        due.is("after clear", Due.lastRun(m), last);
        m.bill();
        due.is("after a bill for nothing", Due.lastRun(m), last);
    }

    private static void pileOutOfRange() {
        GasMeter m = Due.with(Due.PUSH, 1, Due.PUSH, 2, Due.PUSH, 3, Due.PUSH, 4, Due.PUSH, 5, Due.PUSH, 6,
            Due.PUSH, 7, Due.PUSH, 8);
        m.fund(100);
        m.run();
        due.is("height", m.height(), 8);
        for (int i = 0; i < 8; i++) {
            due.is("pile(" + i + ")", m.pile(i), i + 1);
        }
        for (int i : new int[] {-1, 8, 9, Integer.MIN_VALUE, Integer.MAX_VALUE}) {
            due.is("pile(" + i + ")", m.pile(i), 0);
        }
        m.change(6, Due.DROP, 0);
        m.change(7, Due.DROP, 0);
        m.run();
        due.is("height after drops", m.height(), 4);
        due.is("pile(3) after drops", m.pile(3), 4);
        due.is("pile(4) after drops", m.pile(4), 0);
    }
}
