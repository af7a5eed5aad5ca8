/** Promise 17: bill. */
public final class BillTest {
    private static final Due due = new Due();

    public static void main(String[] args) {
        leastGasToHalt();
        leastGasToBeTired();
        leastGasToBeTrapped();
        leastGasByTrying();
        greatestBills();
        fromTheVariablesAsTheyAreNow();
        whateverTheGas();
        gasInstructionAnywhere();
        noGasInstructionAnyMore();
        changesNothing();
        due.end();
    }

    /** The bill, and on both sides of it what a run with so much gas ends with. */
    private static void billIs(String what, int want, int ending, int... instructions) {
        due.is(what + ": bill", Due.with(instructions).bill(), want);
        seeBothSides(what, want, ending, 0, instructions);
    }

    private static void seeBothSides(String what, int bill, int ending, int variable, int... instructions) {
        for (int more = -1; more <= 1; more++) {
            if (bill + more >= 0) {
                due.is(what + ": run with " + (bill + more), endingWith(bill + more, variable, instructions),
                    more < 0 ? GasMeter.BROKE : ending);
            }
        }
    }

    /** What a run with exactly so much gas ends with, from variable 0 as told. */
    private static int endingWith(int gas, int variable, int[] program) {
        GasMeter m = Due.with(program);
        m.set(0, variable);
        Due.fund(m, gas);
        return m.run();
    }

    private static void leastGasToHalt() {
        due.sentence("The least gas with which a run, from the variables as they are now, would not end BROKE");
        billIs("nothing", 0, GasMeter.HALTED);
        billIs("halt", 0, GasMeter.HALTED, Due.HALT, 0, Due.PUSH, 1);
        billIs("drop of a push", 3, GasMeter.HALTED, Due.PUSH, 1, Due.DROP, 0);
        billIs("halt after a push", 2, GasMeter.HALTED, Due.PUSH, 1, Due.HALT, 0, Due.PUSH, 2);
        billIs("spin 0", 3, GasMeter.HALTED, Due.PUSH, 0, Due.SPIN, 0);
        billIs("spin 15", 18, GasMeter.HALTED, Due.PUSH, 15, Due.SPIN, 0);
        billIs("spin 16", 3, GasMeter.HALTED, Due.PUSH, 16, Due.SPIN, 0);
        billIs("spin -1", 18, GasMeter.HALTED, Due.PUSH, -1, Due.SPIN, 0);
        billIs("spin -16", 3, GasMeter.HALTED, Due.PUSH, -16, Due.SPIN, 0);
        billIs("jump past the end", 4, GasMeter.HALTED, Due.JUMP, 20);
        billIs("a branch that goes", 7, GasMeter.HALTED, Due.PUSH, 1, Due.BRANCH, 3, Due.PUSH, 1);
        billIs("a branch that does not", 9, GasMeter.HALTED, Due.PUSH, 0, Due.BRANCH, 3, Due.PUSH, 1);
        billIs("the dearest comes first", 14, GasMeter.HALTED, Due.PUSH, 9, Due.SPIN, 0, Due.PUSH, 9);
    }

    private static void leastGasToBeTired() {
        due.sentence("(by then there would be HALTED, TIRED or TRAPPED);");
        billIs("tired of jumps", 1200, GasMeter.TIRED, Due.JUMP, 0);
        billIs("tired behind a push", 1198, GasMeter.TIRED, Due.PUSH, 1, Due.JUMP, 1);
        billIs("tired of pushes and branches", 150 * 7, GasMeter.TIRED, Due.PUSH, 1, Due.BRANCH, 0);
    }

    private static void leastGasToBeTrapped() {
        due.sentence("HALTED, TIRED or TRAPPED");
        billIs("trapped at once", 0, GasMeter.TRAPPED, Due.ADD, 0);
        billIs("trapped with one number", 2, GasMeter.TRAPPED, Due.PUSH, 1, Due.MUL, 0, Due.PUSH, 1);
        billIs("trapped at a spin", 0, GasMeter.TRAPPED, Due.SPIN, 0);
        billIs("a ninth number", 16, GasMeter.TRAPPED, Due.PUSH, 1, Due.DUP, 0, Due.DUP, 0, Due.DUP, 0, Due.DUP, 0,
            Due.DUP, 0, Due.DUP, 0, Due.DUP, 0, Due.DUP, 0);
        billIs("eight numbers", 16, GasMeter.HALTED, Due.PUSH, 1, Due.DUP, 0, Due.DUP, 0, Due.DUP, 0, Due.DUP, 0,
            Due.DUP, 0, Due.DUP, 0, Due.DUP, 0);
    }

    private static void leastGasByTrying() {
        due.sentence("The least gas with which a run");
        int[][] programs = {
            {Due.GET, 0, Due.SPIN, 0, Due.GET, 0, Due.PUSH, 1, Due.SUB, 0, Due.DUP, 0, Due.SET, 0, Due.BRANCH, 0},
            {Due.GET, 0, Due.PUSH, 3, Due.LESS, 0, Due.BRANCH, 6, Due.PUSH, 9, Due.MUL, 0, Due.SPIN, 0},
            {Due.GET, 0, Due.DUP, 0, Due.MUL, 0, Due.JUMP, 0},
            {Due.GET, 0, Due.BRANCH, 0},
        };
        for (int p = 0; p < programs.length; p++) {
            for (int x = -2; x <= 5; x++) {
                GasMeter m = Due.with(programs[p]);
                m.set(0, x);
                int bill = m.bill();
                int least = 0;
                while (least <= 4800 && endingWith(least, x, programs[p]) == GasMeter.BROKE) {
                    least++;
                }
                due.is("bill of program " + p + " with " + x, bill, least);
            }
        }
    }

    private static void greatestBills() {
        due.sentence("would not end BROKE");
        // 100 rounds of get (3), spin (16) and jump (4).
        int[] ring = {Due.GET, 0, Due.SPIN, 0, Due.JUMP, 0};
        GasMeter m = Due.with(ring);
        m.set(0, -1);
        due.is("a ring of spins: bill", m.bill(), 2300);
        seeBothSides("a ring of spins", 2300, GasMeter.TIRED, -1, ring);
        // 15 rounds of nine gets, nine spins and a jump, then seven gets, seven spins and a get: 300 steps.
        int[] dear = {Due.GET, 0, Due.SPIN, 0, Due.GET, 0, Due.SPIN, 0, Due.GET, 0, Due.SPIN, 0, Due.GET, 0, Due.SPIN, 0,
            Due.GET, 0, Due.SPIN, 0, Due.GET, 0, Due.SPIN, 0, Due.GET, 0, Due.SPIN, 0, Due.GET, 0, Due.SPIN, 0,
            Due.GET, 0, Due.SPIN, 0, Due.JUMP, 0};
        GasMeter d = Due.with(dear);
        d.set(0, Integer.MAX_VALUE);
        int bill = 15 * (9 * 19 + 4) + 7 * 19 + 3;
        due.is("nearly all spins: bill", d.bill(), bill);
        seeBothSides("nearly all spins", bill, GasMeter.TIRED, Integer.MAX_VALUE, dear);
    }

    private static void fromTheVariablesAsTheyAreNow() {
        due.sentence("from the variables as they are now,");
        GasMeter m = Due.with(Due.GET, 0, Due.SPIN, 0, Due.GET, 1, Due.SPIN, 0, Due.GET, 2, Due.SPIN, 0, Due.GET, 3,
            Due.SPIN, 0, Due.PUSH, 15, Due.SET, 0);
        due.is("all 0", m.bill(), 22);
        int[] bits = {1, 2, 4, 8};
        int sum = 0;
        for (int v = 0; v < 4; v++) {
            m.set(v, bits[v]);
            sum += bits[v];
            due.is("variables up to " + v + " set", m.bill(), 22 + sum);
        }
        Due.fund(m, 37);
        m.run();
        due.is("after a run, which set variable 0 to 15", m.bill(), 51);
        m.set(0, Integer.MIN_VALUE);
        due.is("after a set", m.bill(), 36);
        m.set(4, 15);
        due.is("after a refused set", m.bill(), 36);
    }

    private static void whateverTheGas() {
        due.sentence("The least gas");
        GasMeter m = Due.with(Due.PUSH, 3, Due.SPIN, 0, Due.PUSH, 1);
        due.is("bill without gas", m.bill(), 8);
        for (int i = 1; i <= 9; i++) {
            m.fund(1);
            due.is("bill with " + i + " gas", m.bill(), 8);
        }
        Due.fund(m, 100000 - 9);
        due.is("bill with the most gas", m.bill(), 8);
        GasMeter broke = Due.with(Due.PUSH, 3, Due.SPIN, 0, Due.PUSH, 1);
        Due.runWith(broke, 7);
        due.is("bill after BROKE", broke.bill(), 8);
    }

    private static void noBill(String what, int... instructions) {
        due.is(what, Due.with(instructions).bill(), -1);
    }

    private static void gasInstructionAnywhere() {
        due.sentence("if the program has an instruction gas, the answer is -1.");
        noBill("gas alone", Due.GAS, 0);
        noBill("gas with a number", Due.GAS, 13);
        noBill("gas never reached", Due.HALT, 0, Due.GAS, 0);
        noBill("gas jumped over", Due.JUMP, 2, Due.GAS, 0, Due.PUSH, 1);
        noBill("gas behind a trap", Due.ADD, 0, Due.PUSH, 1, Due.GAS, 0);
        noBill("gas behind a ring", Due.JUMP, 0, Due.GAS, 0);
        for (int i = 0; i < 20; i++) {
            GasMeter m = Due.withHalts(20);
            due.is("twenty halts", m.bill(), 0);
            m.change(i, Due.GAS, 0);
            due.is("gas as instruction " + i, m.bill(), -1);
            m.fund(2000);
            due.is("gas as instruction " + i + ", with gas", m.bill(), -1);
        }
        // A number 13 is no instruction gas.
        due.is("push 13", Due.with(Due.PUSH, 13).bill(), 2);
        due.is("drop with number 13", Due.with(Due.PUSH, 1, Due.DROP, 13).bill(), 3);
    }

    private static void noGasInstructionAnyMore() {
        due.sentence("if the program has an instruction gas,");
        GasMeter m = Due.with(Due.PUSH, 1, Due.GAS, 0);
        due.is("with gas", m.bill(), -1);
        m.change(1, Due.DROP, 0);
        due.is("gas changed away", m.bill(), 3);
        m.change(2, Due.GAS, 0);
        due.is("gas refused", m.bill(), 3);
        m.change(0, Due.GAS, 0);
        due.is("gas changed in", m.bill(), -1);
        m.clear();
        due.is("gas cleared away", m.bill(), 0);
        m.append(Due.PUSH, 1);
        due.is("a push in place of the cleared gas", m.bill(), 2);
        GasMeter full = Due.withHalts(20);
        full.append(Due.GAS, 0);
        due.is("gas refused by a full program", full.bill(), 0);
    }

    private static void changesNothing() {
        due.sentence("Nothing is changed.");
        GasMeter m = Due.with(Due.GET, 0, Due.PUSH, 5, Due.ADD, 0, Due.DUP, 0, Due.SET, 0, Due.DUP, 0, Due.SET, 3,
            Due.DUP, 0, Due.DUP, 0);
        m.set(0, 40);
        m.fund(25);
        String fresh = Due.everything(m);
        due.is("bill", m.bill(), 24);
        due.is("bill again", m.bill(), 24);
        due.is("after bills", Due.everything(m), fresh);
        m.run();
        String ran = "size 9 gas 1 variables 45 0 0 45 ending 1 place 9 steps 9 spent 24 pile [45 45 45]";
        due.is("after the run", Due.everything(m), ran);
        m.change(1, Due.PUSH, 6);
        due.is("bill", m.bill(), 24);
        due.is("after the bill", Due.everything(m), ran);
        m.change(8, Due.GAS, 0);
        due.is("no bill", m.bill(), -1);
        due.is("after no bill", Due.everything(m), ran);
        m.change(8, Due.HALT, 0);
        m.change(0, Due.ADD, 0);
        due.is("bill of a trap", m.bill(), 0);
        due.is("after the bill of a trap", Due.everything(m), ran);
        m.change(0, Due.JUMP, 0);
        due.is("bill of a ring", m.bill(), 1200);
        due.is("after the bill of a ring", Due.everything(m), ran);
        m.run();
        due.is("a run after bills", Due.everything(m),
            "size 9 gas 1 variables 45 0 0 45 ending 4 place 0 steps 0 spent 0 pile []");
    }
}
