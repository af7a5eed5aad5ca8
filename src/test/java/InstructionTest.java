/** Promise 10, instruction by instruction: what each does, costs, needs of the pile and puts on it. */
public final class InstructionTest {
    private static final Due due = new Due();
    private static final int MIN = Integer.MIN_VALUE;
    private static final int MAX = Integer.MAX_VALUE;

    public static void main(String[] args) {
        arithmetic();
        pileWork();
        variableWork();
        flow();
        spinPrices();
        gasInstruction();
        tooFewNumbers();
        noNinthNumber();
        othersWorkOnAFullPile();
        due.end();
    }

    /** Variables 0 and 1 are put on the pile (6 gas, 2 steps), then op is worked off as instruction 2. */
    private static void pair(String name, int x, int y, int op, int a, int price, String pile) {
        for (int short1 = 0; short1 <= 1; short1++) {
            GasMeter m = Due.with(Due.GET, 0, Due.GET, 1, op, a);
            m.set(0, x);
            m.set(1, y);
            m.fund(6 + price - short1);
            m.run();
            String what = x + " " + y + " " + name + (short1 == 0 ? "" : " with a gas too little");
            due.is(what, Due.lastRun(m), short1 == 0
                ? "ending 1 place 3 steps 3 spent " + (6 + price) + " pile " + pile
                : "ending 4 place 2 steps 2 spent 6 pile [" + x + " " + y + "]");
            due.is(what + ": gas", m.gas(), short1 == 0 ? 0 : price - 1);
        }
    }

    private static void arithmetic() {
        pair("add", 7, 3, Due.ADD, 0, 3, "[10]");
        pair("add", MAX, 1, Due.ADD, -9, 3, "[" + MIN + "]");
        pair("sub", 7, 3, Due.SUB, 0, 3, "[4]");
        pair("sub", 3, 7, Due.SUB, 0, 3, "[-4]");
        pair("sub", MIN, 1, Due.SUB, MAX, 3, "[" + MAX + "]");
        pair("mul", 7, -3, Due.MUL, 0, 5, "[-21]");
        pair("mul", 65536, 65536, Due.MUL, 0, 5, "[0]");
        pair("mul", 1000000, 1000000, Due.MUL, 0, 5, "[-727379968]");
        pair("mul", MIN, -1, Due.MUL, 0, 5, "[" + MIN + "]");
        pair("less", 3, 7, Due.LESS, 0, 3, "[1]");
        pair("less", 7, 3, Due.LESS, 0, 3, "[0]");
        pair("less", 5, 5, Due.LESS, 0, 3, "[0]");
        pair("less", MIN, MAX, Due.LESS, 0, 3, "[1]");
        pair("less", MAX, MIN, Due.LESS, 0, 3, "[0]");
    }

    private static void pileWork() {
        pair("push 100", 7, 3, Due.PUSH, 100, 2, "[7 3 100]");
        pair("push -100", 7, 3, Due.PUSH, -100, 2, "[7 3 -100]");
        pair("dup", 7, 3, Due.DUP, 0, 2, "[7 3 3]");
        pair("swap", 7, 3, Due.SWAP, 0, 2, "[3 7]");
        pair("drop", 7, 3, Due.DROP, 0, 1, "[7]");
    }

    private static void variableWork() {
        pair("get 0", 7, 3, Due.GET, 0, 3, "[7 3 7]");
        pair("get 1", 7, 3, Due.GET, 1, 3, "[7 3 3]");
        pair("get 3", 7, 3, Due.GET, 3, 3, "[7 3 0]");
        pair("set 2", 7, 3, Due.SET, 2, 4, "[7]");
        for (int v = 0; v < 4; v++) {
            GasMeter m = Due.with(Due.PUSH, 55, Due.SET, v);
            m.fund(6);
            m.run();
            for (int w = 0; w < 4; w++) {
                due.is("set " + v + ": variable " + w, m.get(w), w == v ? 55 : 0);
            }
            GasMeter poor = Due.with(Due.PUSH, 55, Due.SET, v);
            poor.fund(5);
            poor.run();
            due.is("set " + v + " not worked off", poor.get(v), 0);
        }
    }

    private static void flow() {
        pair("jump 3", 7, 3, Due.JUMP, 3, 4, "[7 3]");
        pair("branch 3", 7, 1, Due.BRANCH, 3, 5, "[7]");
        pair("branch past 0", 7, 0, Due.BRANCH, 1, 5, "[7]");
        int[][] tops = {{0, 0}, {1, 1}, {-1, 1}, {MIN, 1}, {MAX, 1}, {256, 1}};
        for (int[] t : tops) {
            GasMeter m = Due.with(Due.GET, 0, Due.BRANCH, 4, Due.PUSH, 10, Due.HALT, 0, Due.PUSH, 20);
            m.set(0, t[0]);
            m.fund(100);
            m.run();
            due.is("branch on " + t[0], Due.lastRun(m), t[1] == 0
                ? "ending 1 place 3 steps 4 spent 10 pile [10]" : "ending 1 place 5 steps 3 spent 10 pile [20]");
        }
        GasMeter m = Due.with(Due.JUMP, 2, Due.HALT, 0, Due.PUSH, 1, Due.JUMP, 1);
        m.fund(10);
        m.run();
        due.is("jump on and back", Due.lastRun(m), "ending 1 place 1 steps 4 spent 10 pile [1]");
        GasMeter h = Due.with(Due.HALT, 0, Due.PUSH, 1);
        h.run();
        due.is("halt without gas", Due.lastRun(h), "ending 1 place 0 steps 1 spent 0 pile []");
    }

    private static void spinPrices() {
        for (int top = -40; top <= 40; top++) {
            pair("spin", 7, top, Due.SPIN, 0, 1 + (((top % 16) + 16) % 16), "[7]");
        }
        pair("spin", 7, MIN, Due.SPIN, 0, 1, "[7]");
        pair("spin", 7, MAX, Due.SPIN, 0, 16, "[7]");
    }

    private static void gasInstruction() {
        pair("gas that leaves none", 7, 3, Due.GAS, 0, 2, "[7 3 0]");
        GasMeter m = Due.with(Due.GAS, 0, Due.PUSH, 1, Due.GAS, 0);
        m.fund(2000);
        m.run();
        due.is("gas", Due.lastRun(m), "ending 1 place 3 steps 3 spent 6 pile [1998 1 1994]");
        due.is("gas: gas", m.gas(), 1994);
    }

    /** The pile is looked at before the gas, so none of these, all of them out of gas, ends BROKE. */
    private static void tooFewNumbers() {
        int[] need = {0, 2, 2, 2, 2, 1, 2, 1, 0, 1, 0, 1, 1, 0, 0};
        for (int op = 0; op < 15; op++) {
            for (int have = 0; have < need[op]; have++) {
                GasMeter m = new GasMeter();
                for (int i = 0; i < have; i++) {
                    m.append(Due.PUSH, 9);
                }
                m.append(op, 0);
                m.fund(2 * have);
                m.run();
                due.is("op " + op + " with " + have, Due.lastRun(m), "ending 3 place " + have + " steps " + have
                    + " spent " + 2 * have + " pile " + (have == 0 ? "[]" : "[9]"));
            }
        }
    }

    private static GasMeter eightThen(int op) {
        GasMeter m = new GasMeter();
        for (int i = 1; i <= 8; i++) {
            m.append(Due.PUSH, i);
        }
        m.append(op, 0);
        return m;
    }

    private static void noNinthNumber() {
        for (int op : new int[] {Due.PUSH, Due.DUP, Due.GET, Due.GAS}) {
            for (int more = 0; more <= 10; more += 10) {
                GasMeter m = eightThen(op);
                m.fund(16 + more);
                m.run();
                due.is("op " + op + " on eight", Due.lastRun(m),
                    "ending 3 place 8 steps 8 spent 16 pile [1 2 3 4 5 6 7 8]");
                due.is("op " + op + " on eight: gas", m.gas(), more);
            }
        }
    }

    private static void othersWorkOnAFullPile() {
        int[] ops = {Due.ADD, Due.SUB, Due.MUL, Due.LESS, Due.SWAP, Due.DROP, Due.SET, Due.BRANCH, Due.SPIN, Due.HALT};
        int[] prices = {3, 3, 5, 3, 2, 1, 4, 5, 9, 0};
        String[] tops = {" 15", " -1", " 56", " 1", " 8 7", " 7", " 7", " 7", " 7", " 7 8"};
        for (int i = 0; i < ops.length; i++) {
            GasMeter m = eightThen(ops[i]);
            if (ops[i] == Due.BRANCH) {
                m.change(8, Due.BRANCH, 9);
            }
            m.fund(16 + prices[i]);
            m.run();
            due.is("op " + ops[i] + " on eight", Due.lastRun(m), "ending 1 place " + (ops[i] == Due.HALT ? 8 : 9)
                + " steps 9 spent " + (16 + prices[i]) + " pile [1 2 3 4 5 6" + tops[i] + "]");
        }
        GasMeter m = eightThen(Due.JUMP);
        m.change(8, Due.JUMP, 9);
        m.fund(20);
        m.run();
        due.is("jump on eight", Due.lastRun(m), "ending 1 place 9 steps 9 spent 20 pile [1 2 3 4 5 6 7 8]");
    }
}
