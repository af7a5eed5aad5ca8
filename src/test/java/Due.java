/**
 * Compares answers with the ones that are due, and ends the test with exit code 1 if one differed. Each test tells the
 * document's sentence that it is about, and a wrong answer is printed with it.
 */
final class Due {
    static final int PUSH = 0;
    static final int ADD = 1;
    static final int SUB = 2;
    static final int MUL = 3;
    static final int LESS = 4;
    static final int DUP = 5;
    static final int SWAP = 6;
    static final int DROP = 7;
    static final int GET = 8;
    static final int SET = 9;
    static final int JUMP = 10;
    static final int BRANCH = 11;
    static final int SPIN = 12;
    static final int GAS = 13;
    static final int HALT = 14;

    private int wrong = 0;
    private int compared = 0;
    private String sentence = "";
    private int comparedBefore = -1;

    /** The document's words that the answers compared from here on belong to. */
    void sentence(String words) {
        seeThatSomethingWasCompared();
        sentence = words;
        comparedBefore = compared;
    }

    void is(String what, long got, long want) {
        is(what, "" + got, "" + want);
    }

    void is(String what, String got, String want) {
        compared++;
        if (!got.equals(want)) {
            wrong++;
            System.out.println("<" + sentence + "> " + what + " answered " + got + ", due is " + want);
        }
    }

    // A sentence whose test compares nothing would hold whatever the program does.
    private void seeThatSomethingWasCompared() {
        if (compared == comparedBefore) {
            wrong++;
            System.out.println("<" + sentence + "> nothing was compared");
        }
    }

    void end() {
        seeThatSomethingWasCompared();
        System.out.println(wrong + " of " + compared + " answers are not as due");
        if (wrong != 0 || compared == 0) {
            System.exit(1);
        }
    }

    /** A new object with the instructions given as op, number, op, number, .. */
    static GasMeter with(int... instructions) {
        GasMeter m = new GasMeter();
        load(m, instructions);
        return m;
    }

    /** A new object whose program puts 1, 2, .. on the pile, up to the height given: 2 gas and a step for each. */
    static GasMeter withPileOf(int height) {
        GasMeter m = new GasMeter();
        for (int i = 1; i <= height; i++) {
            load(m, PUSH, i);
        }
        return m;
    }

    /** A new object with as many instructions halt. */
    static GasMeter withHalts(int count) {
        GasMeter m = new GasMeter();
        for (int i = 0; i < count; i++) {
            load(m, HALT, 0);
        }
        return m;
    }

    static void load(GasMeter m, int... instructions) {
        for (int i = 0; i < instructions.length; i += 2) {
            if (m.append(instructions[i], instructions[i + 1]) < 0) {
                throw new IllegalStateException("the test's own program is refused at " + i / 2);
            }
        }
    }

    /** Funds in as many calls as it takes. */
    static void fund(GasMeter m, int g) {
        for (int rest = g; rest > 0; rest -= 2000) {
            if (m.fund(rest < 2000 ? rest : 2000) < 0) {
                throw new IllegalStateException("the test's own funding is refused with " + rest + " to go");
            }
        }
    }

    /** Funds, runs, and tells of the run. */
    static String runWith(GasMeter m, int g) {
        fund(m, g);
        m.run();
        return lastRun(m);
    }

    static String pileOf(GasMeter m) {
        StringBuilder s = new StringBuilder("[");
        for (int i = 0; i < m.height(); i++) {
            s.append(i == 0 ? "" : " ").append(m.pile(i));
        }
        return s.append("]").toString();
    }

    static String lastRun(GasMeter m) {
        return "ending " + m.ending() + " place " + m.place() + " steps " + m.steps() + " spent " + m.spent()
            + " pile " + pileOf(m);
    }

    /** All that can be asked without changing anything. */
    static String everything(GasMeter m) {
        return "size " + m.size() + " gas " + m.gas() + " variables " + m.get(0) + " " + m.get(1) + " " + m.get(2)
            + " " + m.get(3) + " " + lastRun(m);
    }
}
