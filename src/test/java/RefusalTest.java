import java.util.function.ToIntFunction;

/** What holds for all calls: none throws, a refused one changes nothing, and 512 of them are answered. */
public final class RefusalTest {
    private static final Due due = new Due();
    private static final int STATES = 5;
    private static final int[] ARGUMENTS = {Integer.MIN_VALUE, Integer.MIN_VALUE + 1, -2001, -101, -100, -16, -1, 0, 1, 2, 3,
        4, 7, 8, 9, 13, 14, 15, 19, 20, 21, 100, 101, 255, 300, 2000, 2001, 98000, 100000, 100001, Integer.MAX_VALUE - 1,
        Integer.MAX_VALUE};

    public static void main(String[] args) {
        // First, for a call that throws in one of the others would end the test before it is told here.
        noCallThrowsForAnyArguments();
        noRunOrBillThrows();
        refusedAppendChangesNothing();
        refusedAppendToAFullProgramChangesNothing();
        refusedChangeChangesNothing();
        refusedSetChangesNothing();
        refusedFundChangesNothing();
        questionsOutOfRangeChangeNothing();
        answersUpToThe512thCall();
        due.end();
    }

    /** A program in which each number shows in what a run leaves, 20 instructions long. */
    private static void loadTwenty(GasMeter m) {
        Due.load(m, Due.PUSH, 5, Due.SET, 0, Due.PUSH, 6, Due.SET, 1, Due.PUSH, 7, Due.SET, 2, Due.PUSH, 8, Due.SET, 3,
            Due.GET, 3, Due.GET, 2, Due.GET, 1, Due.GET, 0, Due.JUMP, 13, Due.BRANCH, 15, Due.PUSH, 99, Due.ADD, 0,
            Due.PUSH, 30, Due.SPIN, 0, Due.DUP, 0, Due.PUSH, 50);
    }

    /**
     * 0: new. 1: with a program. 2: with a program that has run. 3: full, and run, with all but one of the gas there can
     * be. 4: run, then cleared.
     */
    private static GasMeter state(int kind) {
        GasMeter m = new GasMeter();
        if (kind == 1 || kind == 2) {
            Due.load(m, Due.PUSH, 4, Due.GET, 1, Due.ADD, 0, Due.DUP, 0, Due.SET, 2);
        } else if (kind >= 3) {
            loadTwenty(m);
        }
        for (int v = 0; v < 4 && kind > 0; v++) {
            m.set(v, 100 * kind + v);
        }
        Due.fund(m, kind == 0 ? 0 : kind == 3 ? 100000 : 150);
        if (kind >= 2) {
            m.run();
        }
        if (kind == 3) {
            Due.fund(m, 99999 - m.gas());
        }
        if (kind == 4) {
            m.clear();
        }
        return m;
    }

    /** The same call on each of these states; a twin without the call must be no different after it. */
    private static void refused(String call, int code, int firstState, int lastState, ToIntFunction<GasMeter> refusal) {
        for (int kind = firstState; kind <= lastState; kind++) {
            GasMeter m = state(kind);
            String what = call + " in state " + kind;
            due.is(what, refusal.applyAsInt(m), code);
            seeNothingChanged(what, m, state(kind));
        }
    }

    private static void seeNothingChanged(String what, GasMeter m, GasMeter twin) {
        due.is(what + ": all that can be asked", Due.everything(m), Due.everything(twin));
        due.is(what + ": bill", m.bill(), twin.bill());
        due.is(what + ": run", m.run(), twin.run());
        due.is(what + ": all after a run", Due.everything(m), Due.everything(twin));
        due.is(what + ": append", m.append(Due.HALT, 0), twin.append(Due.HALT, 0));
        for (int i = 0; i < 20; i++) {
            due.is(what + ": op " + i, m.change(i, Due.HALT, 0), twin.change(i, Due.HALT, 0));
        }
        due.is(what + ": fund", m.fund(1), twin.fund(1));
    }

    private static void refusedAppendChangesNothing() {
        due.sentence("A refused call answers the code named and changes nothing.");
        int[][] bad = {{-1, 0}, {15, 0}, {Integer.MIN_VALUE, 0}, {Integer.MAX_VALUE, 0}, {Due.PUSH, -101}, {Due.PUSH, 101},
            {Due.GET, -1}, {Due.GET, 4}, {Due.SET, -1}, {Due.SET, 4}, {Due.JUMP, -1}, {Due.JUMP, 21}, {Due.BRANCH, -1},
            {Due.BRANCH, 21}};
        for (int[] b : bad) {
            refused("append(" + b[0] + ", " + b[1] + ")", GasMeter.BAD_ARG, 0, 4, m -> m.append(b[0], b[1]));
        }
    }

    private static void refusedAppendToAFullProgramChangesNothing() {
        due.sentence("A refused call answers the code named and changes nothing.");
        for (int op = 0; op < 15; op++) {
            int good = op;
            refused("append(" + op + ", 2)", GasMeter.FULL, 3, 3, m -> m.append(good, 2));
        }
    }

    private static void refusedChangeChangesNothing() {
        due.sentence("A refused call answers the code named and changes nothing.");
        for (int i : new int[] {Integer.MIN_VALUE, -1, 20, 21, Integer.MAX_VALUE}) {
            refused("change(" + i + ", halt)", GasMeter.BAD_ARG, 0, 4, m -> m.change(i, Due.HALT, 0));
        }
        refused("change(0, halt)", GasMeter.BAD_ARG, 0, 0, m -> m.change(0, Due.HALT, 0));
        refused("change(0, halt)", GasMeter.BAD_ARG, 4, 4, m -> m.change(0, Due.HALT, 0));
        refused("change(5, gas)", GasMeter.BAD_ARG, 0, 2, m -> m.change(5, Due.GAS, 0));
        int[][] bad = {{-1, 0}, {15, 0}, {Due.PUSH, -101}, {Due.PUSH, 101}, {Due.GET, -1}, {Due.GET, 4}, {Due.SET, -1},
            {Due.SET, 4}, {Due.JUMP, -1}, {Due.JUMP, 21}, {Due.BRANCH, -1}, {Due.BRANCH, 21}};
        for (int[] b : bad) {
            for (int i : new int[] {0, 1, 4, 19}) {
                refused("change(" + i + ", " + b[0] + ", " + b[1] + ")", GasMeter.BAD_ARG, 0, 4,
                    m -> m.change(i, b[0], b[1]));
            }
        }
    }

    private static void refusedSetChangesNothing() {
        due.sentence("A refused call answers the code named and changes nothing.");
        for (int v : new int[] {Integer.MIN_VALUE, -1, 4, 5, Integer.MAX_VALUE}) {
            refused("set(" + v + ", 77)", GasMeter.BAD_ARG, 0, 4, m -> m.set(v, 77));
        }
    }

    private static void refusedFundChangesNothing() {
        due.sentence("A refused call answers the code named and changes nothing.");
        for (int g : new int[] {Integer.MIN_VALUE, -2000, -1, 2001, 100000, Integer.MAX_VALUE}) {
            refused("fund(" + g + ")", GasMeter.BAD_ARG, 0, 4, m -> m.fund(g));
        }
        for (int g : new int[] {2, 3, 1999, 2000}) {
            refused("fund(" + g + ")", GasMeter.BAD_ARG, 3, 3, m -> m.fund(g));
        }
    }

    private static void questionsOutOfRangeChangeNothing() {
        due.sentence("A refused call answers the code named and changes nothing.");
        for (int i : new int[] {Integer.MIN_VALUE, -1, 8, 20, Integer.MAX_VALUE}) {
            refused("get(" + i + ")", 0, 0, 4, m -> m.get(i));
            refused("pile(" + i + ")", 0, 0, 4, m -> m.pile(i));
        }
    }

    private static void noCallThrowsForAnyArguments() {
        due.sentence("No call ever throws.");
        int calls = 0;
        try {
            for (int kind = 0; kind < STATES; kind++) {
                for (int x : ARGUMENTS) {
                    GasMeter m = state(kind);
                    for (int y : ARGUMENTS) {
                        m.append(x, y);
                        m.set(x, y);
                        m.get(x);
                        m.pile(x);
                        m.fund(x);
                        m.run();
                        m.bill();
                        calls += 7;
                    }
                    for (int y : ARGUMENTS) {
                        GasMeter c = state(kind);
                        for (int z : ARGUMENTS) {
                            c.change(x, y, z);
                            c.run();
                            c.bill();
                            calls += 3;
                        }
                    }
                }
            }
        } catch (RuntimeException e) {
            due.is("after " + calls + " calls: thrown", e.toString(), "nothing");
        }
        due.is("calls", calls, STATES * 32 * 32 * (7 + 32 * 3));
    }

    /** Each instruction first on each height of the pile, and each two of them in a ring. */
    private static void noRunOrBillThrows() {
        due.sentence("No call ever throws.");
        int runs = 0;
        try {
            for (int op = 0; op < 15; op++) {
                for (int height = 0; height <= 10; height++) {
                    GasMeter m = Due.withPileOf(height);
                    Due.load(m, op, 3);
                    m.bill();
                    m.run();
                    Due.fund(m, 2000);
                    m.run();
                    m.pile(m.height());
                    m.pile(m.height() - 1);
                    runs++;
                }
                for (int next = 0; next < 15; next++) {
                    GasMeter m = Due.with(op, 0, next, 0, Due.JUMP, 0);
                    m.bill();
                    m.run();
                    Due.fund(m, 2000);
                    m.run();
                    runs++;
                }
            }
        } catch (RuntimeException e) {
            due.is("after " + runs + " programs: thrown", e.toString(), "nothing");
        }
        due.is("programs", runs, 15 * (11 + 15));
    }

    private static void answersUpToThe512thCall() {
        due.sentence("An object is used for at most 512 calls after it has been made;");
        GasMeter runs = Due.with(Due.PUSH, 1);
        runs.fund(2000);
        for (int call = 3; call <= 511; call++) {
            due.is("run as call " + call, runs.run(), GasMeter.HALTED);
        }
        due.is("gas as call 512", runs.gas(), 2000 - 2 * 509);
        GasMeter bills = Due.with(Due.JUMP, 0);
        for (int call = 2; call <= 512; call++) {
            due.is("bill as call " + call, bills.bill(), 1200);
        }
        GasMeter appends = new GasMeter();
        for (int call = 1; call <= 511; call++) {
            if (appends.append(call % 15, 0) == GasMeter.FULL) {
                appends.clear();
                call++;
            }
        }
        // 21 appends, the last of them refused, and a clear are 22 calls: after 23 times that come 5 appends more.
        due.is("size as call 512", appends.size(), 5);
        GasMeter refusals = new GasMeter();
        for (int call = 1; call <= 511; call++) {
            due.is("refusal as call " + call, refusals.append(15, call), GasMeter.BAD_ARG);
        }
        due.is("append as call 512", refusals.append(0, 0), 0);
        GasMeter tired = Due.with(Due.JUMP, 0);
        for (int call = 2; call <= 51; call++) {
            tired.fund(2000);
        }
        for (int call = 52; call <= 134; call++) {
            due.is("tired run as call " + call, tired.run(), GasMeter.TIRED);
        }
        due.is("gas after 83 tired runs", tired.gas(), 100000 - 83 * 1200);
        due.is("run with what is left", tired.run(), GasMeter.BROKE);
        due.is("gas at the end", tired.gas(), 0);
    }
}
