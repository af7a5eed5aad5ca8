/** Promises 6 to 9: set, get, fund and gas. */
public final class AccountTest {
    private static final Due due = new Due();

    public static void main(String[] args) {
        variablesHoldAnyInt();
        variablesOutOfRange();
        fundAddsAndAnswersTheGas();
        fundRefuses();
        fundStopsAtTheMost();
        due.end();
    }

    private static void variablesHoldAnyInt() {
        int[] xs = {0, 1, -1, 101, Integer.MIN_VALUE, Integer.MAX_VALUE};
        for (int x : xs) {
            GasMeter m = new GasMeter();
            for (int v = 0; v < 4; v++) {
                due.is("set(" + v + ", " + x + ")", m.set(v, x), 0);
                due.is("get(" + v + ")", m.get(v), x);
            }
        }
        GasMeter m = new GasMeter();
        for (int v = 0; v < 4; v++) {
            m.set(v, 10 + v);
        }
        m.set(1, 5);
        due.is("each its own", Due.everything(m),
            "size 0 gas 0 variables 10 5 12 13 ending 0 place 0 steps 0 spent 0 pile []");
    }

    private static void variablesOutOfRange() {
        GasMeter m = new GasMeter();
        for (int v = 0; v < 4; v++) {
            m.set(v, 10 + v);
        }
        String before = Due.everything(m);
        for (int v : new int[] {-1, 4, 5, Integer.MIN_VALUE, Integer.MAX_VALUE}) {
            due.is("set(" + v + ", 77)", m.set(v, 77), GasMeter.BAD_ARG);
            due.is("get(" + v + ")", m.get(v), 0);
        }
        due.is("after refused sets", Due.everything(m), before);
    }

    private static void fundAddsAndAnswersTheGas() {
        GasMeter m = new GasMeter();
        due.is("fund(0)", m.fund(0), 0);
        due.is("fund(1)", m.fund(1), 1);
        due.is("fund(2000)", m.fund(2000), 2001);
        due.is("fund(0)", m.fund(0), 2001);
        due.is("gas", m.gas(), 2001);
        Due.load(m, Due.PUSH, 1);
        m.run();
        due.is("gas after a run", m.gas(), 1999);
        due.is("fund(5)", m.fund(5), 2004);
    }

    private static void fundRefuses() {
        GasMeter m = new GasMeter();
        m.fund(30);
        for (int g : new int[] {-1, -30, 2001, Integer.MIN_VALUE, Integer.MAX_VALUE}) {
            due.is("fund(" + g + ")", m.fund(g), GasMeter.BAD_ARG);
            due.is("gas", m.gas(), 30);
        }
    }

    private static void fundStopsAtTheMost() {
        GasMeter m = new GasMeter();
        for (int i = 1; i < 50; i++) {
            due.is("fund " + i, m.fund(2000), 2000 * i);
        }
        due.is("fund(1999)", m.fund(1999), 99999);
        due.is("fund(2) over the most", m.fund(2), GasMeter.BAD_ARG);
        due.is("fund(2000) over the most", m.fund(2000), GasMeter.BAD_ARG);
        due.is("gas", m.gas(), 99999);
        due.is("fund(1) up to the most", m.fund(1), 100000);
        due.is("fund(1) over the most", m.fund(1), GasMeter.BAD_ARG);
        due.is("fund(0) at the most", m.fund(0), 100000);
        due.is("gas", m.gas(), 100000);
    }
}
