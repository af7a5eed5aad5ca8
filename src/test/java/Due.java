/** Compares answers with the ones that are due, and ends the test with exit code 1 if one differed. */
final class Due {
    static final int PUSH = 0;
    static final int ADD = 1;
    static final int SUB = 2;
    static final int MUL = 3;
    static final int LESS = 4;
    static final int DUP = 5;
    static final int SWAP = 6;
    static final int DROP = 7;
    static final int GET = 8;
    static final int SET = 9;
    static final int JUMP = 10;
    static final int BRANCH = 11;
    static final int SPIN = 12;
    static final int GAS = 13;
    static final int HALT = 14;

    private int wrong = 0;
    private int compared = 0;

    void is(String what, long got, long want) {
        compared++;
        if (got != want) {
            wrong++;
            System.out.println(what + " answered " + got + ", due is " + want);
        }
    }

    void is(String what, String got, String want) {
        compared++;
        if (!got.equals(want)) {
            wrong++;
            System.out.println(what + ": " + got + ", due is " + want);
        }
    }

    void end() {
        System.out.println(wrong + " of " + compared + " answers are not as due");
        if (wrong != 0 || compared == 0) {
            System.exit(1);
        }
    }

    /** A new object with the instructions given as op, number, op, number, .. */
    static GasMeter with(int... instructions) {
        GasMeter m = new GasMeter();
        load(m, instructions);
        return m;
    }

    static void load(GasMeter m, int... instructions) {
        for (int i = 0; i < instructions.length; i += 2) {
            if (m.append(instructions[i], instructions[i + 1]) < 0) {
                throw new IllegalStateException("the test's own program is refused at " + i / 2);
            }
        }
    }

    /** Funds in as many calls as it takes. */
    static void fund(GasMeter m, int g) {
        for (int rest = g; rest > 0; rest -= 2000) {
            m.fund(rest < 2000 ? rest : 2000);
        }
    }

    static String pileOf(GasMeter m) {
        StringBuilder s = new StringBuilder("[");
        for (int i = 0; i < m.height(); i++) {
            s.append(i == 0 ? "" : " ").append(m.pile(i));
        }
        return s.append("]").toString();
    }

    static String lastRun(GasMeter m) {
        return "ending " + m.ending() + " place " + m.place() + " steps " + m.steps() + " spent " + m.spent()
            + " pile " + pileOf(m);
    }

    /** All that can be asked without changing anything. */
    static String everything(GasMeter m) {
        return "size " + m.size() + " gas " + m.gas() + " variables " + m.get(0) + " " + m.get(1) + " " + m.get(2)
            + " " + m.get(3) + " " + lastRun(m);
    }
}
