/** Promise 17: bill. */
public final class BillTest {
    private static final Due due = new Due();

    public static void main(String[] args) {
        smallBills();
        gasInstructionAnywhere();
        goneGasInstruction();
        billsAtTheLimits();
        leastGasByTrying();
        changesNothing();
        followsTheVariables();
        due.end();
    }

    private static void billIs(String what, int want, int... instructions) {
        due.is(what, Due.with(instructions).bill(), want);
    }

    private static void smallBills() {
        billIs("nothing", 0);
        billIs("halt", 0, Due.HALT, 0, Due.PUSH, 1);
        billIs("push", 2, Due.PUSH, 1);
        billIs("trapped at once", 0, Due.ADD, 0);
        billIs("trapped later", 4, Due.PUSH, 1, Due.PUSH, 1, Due.HALT, 0, Due.ADD, 0);
        billIs("a ninth number", 16, Due.PUSH, 1, Due.DUP, 0, Due.DUP, 0, Due.DUP, 0, Due.DUP, 0, Due.DUP, 0,
            Due.DUP, 0, Due.DUP, 0, Due.DUP, 0);
        billIs("spin 15", 18, Due.PUSH, 15, Due.SPIN, 0);
        billIs("spin -1", 18, Due.PUSH, -1, Due.SPIN, 0);
        billIs("spin 16", 3, Due.PUSH, 16, Due.SPIN, 0);
        billIs("jump past the end", 4, Due.JUMP, 20);
    }

    private static void gasInstructionAnywhere() {
        billIs("gas alone", -1, Due.GAS, 0);
        billIs("gas never reached", -1, Due.HALT, 0, Due.GAS, 0);
        billIs("gas behind a trap", -1, Due.ADD, 0, Due.PUSH, 1, Due.GAS, 0);
        GasMeter m = new GasMeter();
        for (int i = 0; i < 19; i++) {
            m.append(Due.HALT, 0);
        }
        due.is("nineteen halts", m.bill(), 0);
        m.append(Due.GAS, 0);
        due.is("gas as the twentieth", m.bill(), -1);
    }

    private static void goneGasInstruction() {
        GasMeter m = Due.with(Due.PUSH, 1, Due.GAS, 0);
        due.is("with gas", m.bill(), -1);
        m.change(1, Due.DROP, 0);
        due.is("gas changed away", m.bill(), 3);
        m.change(0, Due.GAS, 0);
        due.is("gas changed in", m.bill(), -1);
        m.clear();
        due.is("gas cleared away", m.bill(), 0);
        m.append(Due.PUSH, 1);
        due.is("one behind the cleared gas", m.bill(), 2);
    }

    private static void billsAtTheLimits() {
        billIs("tired of jumps", 1200, Due.JUMP, 0);
        // 100 rounds of get (3), spin (16) and jump (4): as dear as three steps with a spin can be.
        GasMeter m = Due.with(Due.GET, 0, Due.SPIN, 0, Due.JUMP, 0);
        m.set(0, -1);
        due.is("tired of spins", m.bill(), 2300);
        Due.fund(m, 2300);
        due.is("run with the bill", m.run(), GasMeter.TIRED);
        due.is("gas", m.gas(), 0);
    }

    /** What a run with exactly g ends with; every g has its own new object. */
    private static int endingWith(int g, int x, int[] program) {
        GasMeter m = Due.with(program);
        m.set(0, x);
        Due.fund(m, g);
        return m.run();
    }

    private static void leastGasByTrying() {
        int[][] programs = {
            {Due.GET, 0, Due.SPIN, 0, Due.GET, 0, Due.PUSH, 1, Due.SUB, 0, Due.DUP, 0, Due.SET, 0, Due.BRANCH, 0},
            {Due.GET, 0, Due.PUSH, 3, Due.LESS, 0, Due.BRANCH, 6, Due.PUSH, 9, Due.MUL, 0, Due.SPIN, 0},
            {Due.GET, 0, Due.DUP, 0, Due.MUL, 0, Due.JUMP, 0},
            {Due.GET, 0, Due.BRANCH, 0},
        };
        for (int p = 0; p < programs.length; p++) {
            for (int x = -2; x <= 5; x++) {
                GasMeter m = Due.with(programs[p]);
                m.set(0, x);
                int bill = m.bill();
                int least = 0;
                while (least <= 4800 && endingWith(least, x, programs[p]) == GasMeter.BROKE) {
                    least++;
                }
                due.is("bill of program " + p + " with " + x, bill, least);
            }
        }
    }

    private static void changesNothing() {
        GasMeter m = Due.with(Due.GET, 0, Due.PUSH, 5, Due.ADD, 0, Due.DUP, 0, Due.SET, 0, Due.DUP, 0, Due.SET, 3,
            Due.DUP, 0, Due.DUP, 0);
        m.set(0, 40);
        m.fund(25);
        String fresh = Due.everything(m);
        due.is("bill", m.bill(), 24);
        due.is("bill again", m.bill(), 24);
        due.is("after bills", Due.everything(m), fresh);
        m.run();
        String ran = "size 9 gas 1 variables 45 0 0 45 ending 1 place 9 steps 9 spent 24 pile [45 45 45]";
        due.is("after the run", Due.everything(m), ran);
        m.change(1, Due.PUSH, 6);
        due.is("bill", m.bill(), 24);
        due.is("after the bill", Due.everything(m), ran);
        m.change(8, Due.GAS, 0);
        due.is("no bill", m.bill(), -1);
        due.is("after no bill", Due.everything(m), ran);
    }

    private static void followsTheVariables() {
        GasMeter m = Due.with(Due.GET, 0, Due.SPIN, 0, Due.GET, 1, Due.SPIN, 0, Due.GET, 2, Due.SPIN, 0, Due.GET, 3,
            Due.SPIN, 0, Due.PUSH, 15, Due.SET, 0);
        due.is("all 0", m.bill(), 22);
        m.set(0, 1);
        m.set(1, 2);
        m.set(2, 4);
        m.set(3, 8);
        due.is("1 2 4 8", m.bill(), 37);
        Due.fund(m, 37);
        m.run();
        due.is("after a run", m.bill(), 51);
    }
}
