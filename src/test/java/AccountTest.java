/** Promises 6 to 9: set, get, fund and gas. */
public final class AccountTest {
    private static final Due due = new Due();
    private static final int[] NO_VARIABLES = {Integer.MIN_VALUE, -2, -1, 4, 5, 256, Integer.MAX_VALUE};

    public static void main(String[] args) {
        variablesHoldInts();
        setMakesTheVariable();
        setRefuses();
        setAnswersZero();
        getAnswersTheVariable();
        getWithoutVariable();
        fundAdds();
        fundRefusesAnAmountOutOfRange();
        fundRefusesMoreThanTheMost();
        fundAnswersTheGas();
        gasIsNeverBelowZero();
        gasAnswersTheGas();
        due.end();
    }

    private static GasMeter withVariables() {
        GasMeter m = new GasMeter();
        for (int v = 0; v < 4; v++) {
            m.set(v, 10 + v);
        }
        return m;
    }

    private static void variablesHoldInts() {
        due.sentence("VARIABLES 0 to 3 hold ints;");
        int[] xs = {Integer.MIN_VALUE, -32769, -101, -1, 0, 1, 101, 32768, Integer.MAX_VALUE};
        for (int x : xs) {
            for (int v = 0; v < 4; v++) {
                GasMeter m = Due.with(Due.GET, v, Due.SET, 3 - v, Due.GET, 3 - v);
                m.set(v, x);
                due.is("get(" + v + ")", m.get(v), x);
                due.is(x + " through a run", Due.runWith(m, 10), "ending 1 place 3 steps 3 spent 10 pile [" + x + "]");
                due.is("get(" + (3 - v) + ") after the run", m.get(3 - v), x);
            }
        }
    }

    private static void setMakesTheVariable() {
        due.sentence("Variable v becomes x;");
        for (int v = 0; v < 4; v++) {
            GasMeter m = withVariables();
            m.set(v, 5);
            for (int w = 0; w < 4; w++) {
                due.is("get(" + w + ") after set(" + v + ", 5)", m.get(w), w == v ? 5 : 10 + w);
            }
            m.set(v, 0);
            due.is("get(" + v + ") after set to 0", m.get(v), 0);
        }
    }

    private static void setRefuses() {
        due.sentence("BAD_ARG if v is not 0 to 3,");
        GasMeter m = withVariables();
        String before = Due.everything(m);
        for (int v : NO_VARIABLES) {
            due.is("set(" + v + ", 77)", m.set(v, 77), GasMeter.BAD_ARG);
        }
        due.is("after refused sets", Due.everything(m), before);
    }

    private static void setAnswersZero() {
        due.sentence("otherwise 0.");
        for (int v = 0; v < 4; v++) {
            for (int x : new int[] {Integer.MIN_VALUE, -1, 0, 1, Integer.MAX_VALUE}) {
                due.is("set(" + v + ", " + x + ")", withVariables().set(v, x), 0);
            }
        }
    }

    private static void getAnswersTheVariable() {
        due.sentence("`int get(int v)`: Variable v;");
        GasMeter m = withVariables();
        for (int v = 0; v < 4; v++) {
            due.is("get(" + v + ")", m.get(v), 10 + v);
        }
    }

    private static void getWithoutVariable() {
        due.sentence("0 if v is not 0 to 3.");
        GasMeter m = withVariables();
        for (int v : NO_VARIABLES) {
            due.is("get(" + v + ")", m.get(v), 0);
        }
    }

    private static void fundAdds() {
        due.sentence("Adds g to the gas.");
        GasMeter m = Due.with(Due.PUSH, 1);
        m.fund(30);
        due.is("gas after fund(30)", m.gas(), 30);
        m.fund(0);
        due.is("gas after fund(0)", m.gas(), 30);
        m.fund(2000);
        due.is("gas after fund(2000)", m.gas(), 2030);
        m.run();
        m.fund(5);
        due.is("gas after a run and fund(5)", m.gas(), 2033);
    }

    private static void fundRefusesAnAmountOutOfRange() {
        due.sentence("BAD_ARG if g is not 0 to 2000");
        GasMeter m = new GasMeter();
        due.is("fund(0)", m.fund(0), 0);
        due.is("fund(2000)", m.fund(2000), 2000);
        for (int g : new int[] {Integer.MIN_VALUE, -2000, -2, -1, 2001, 2002, 98000, Integer.MAX_VALUE}) {
            due.is("fund(" + g + ")", m.fund(g), GasMeter.BAD_ARG);
            due.is("gas after fund(" + g + ")", m.gas(), 2000);
        }
    }

    private static void fundRefusesMoreThanTheMost() {
        due.sentence("or the gas would be more than 100000.");
        GasMeter m = Due.with(Due.PUSH, 1);
        Due.fund(m, 98001);
        due.is("fund(2000) at 98001", m.fund(2000), GasMeter.BAD_ARG);
        due.is("gas", m.gas(), 98001);
        due.is("fund(1998) at 98001", m.fund(1998), 99999);
        due.is("fund(2) at 99999", m.fund(2), GasMeter.BAD_ARG);
        due.is("fund(2000) at 99999", m.fund(2000), GasMeter.BAD_ARG);
        due.is("gas", m.gas(), 99999);
        due.is("fund(1) at 99999", m.fund(1), 100000);
        due.is("fund(1) at 100000", m.fund(1), GasMeter.BAD_ARG);
        due.is("fund(0) at 100000", m.fund(0), 100000);
        due.is("fund(-1) at 100000", m.fund(-1), GasMeter.BAD_ARG);
        due.is("fund(MAX) at 100000", m.fund(Integer.MAX_VALUE), GasMeter.BAD_ARG);
        due.is("gas", m.gas(), 100000);
        m.run();
        due.is("fund(3) at 99998", m.fund(3), GasMeter.BAD_ARG);
        due.is("fund(2) at 99998", m.fund(2), 100000);
        GasMeter even = new GasMeter();
        Due.fund(even, 98000);
        due.is("fund(2000) at 98000", even.fund(2000), 100000);
    }

    private static void fundAnswersTheGas() {
        due.sentence("Otherwise the gas.");
        GasMeter m = new GasMeter();
        due.is("fund(0) of nothing", m.fund(0), 0);
        due.is("fund(1)", m.fund(1), 1);
        for (int i = 1; i <= 49; i++) {
            due.is("fund(2000) " + i, m.fund(2000), 1 + 2000 * i);
        }
        due.is("fund(0)", m.fund(0), 98001);
    }

    private static void gasIsNeverBelowZero() {
        due.sentence("GAS is a whole number from 0 on.");
        GasMeter m = Due.with(Due.PUSH, 1, Due.DROP, 0, Due.JUMP, 0);
        m.fund(10);
        for (int i = 0; i < 5; i++) {
            m.run();
            due.is("gas after run " + i, m.gas(), 0);
            due.is("fund(0) after run " + i, m.fund(0), 0);
        }
        m.fund(1);
        m.run();
        due.is("gas too little for anything", m.gas(), 1);
        due.is("fund(-1)", m.fund(-1), GasMeter.BAD_ARG);
        due.is("gas after fund(-1)", m.gas(), 1);
    }

    private static void gasAnswersTheGas() {
        due.sentence("`int gas()`: The gas.");
        GasMeter m = Due.with(Due.PUSH, 1);
        due.is("gas of a new object", m.gas(), 0);
        m.fund(7);
        due.is("gas after fund(7)", m.gas(), 7);
        m.run();
        due.is("gas after a run", m.gas(), 5);
        m.fund(2001);
        m.bill();
        m.clear();
        due.is("gas after calls that leave it alone", m.gas(), 5);
    }
}
