/** Promises 2 to 5: append, change, clear and size; and the bounds of a program and of its numbers. */
public final class ProgramTest {
    private static final Due due = new Due();
    private static final int MIN = Integer.MIN_VALUE;
    private static final int MAX = Integer.MAX_VALUE;
    private static final int[] WITHOUT_NUMBER = {
        Due.ADD, Due.SUB, Due.MUL, Due.LESS, Due.DUP, Due.SWAP, Due.DROP, Due.SPIN, Due.GAS, Due.HALT};

    public static void main(String[] args) {
        programHasAtMostTwenty();
        instructionsAreNumberedFromZero();
        numbersOfPushVariablesAndJumps();
        appendTakesAnyNumberWhereThereIsNone();
        appendRefusesAnOpOutOfRange();
        appendRefusesANumberOutOfRange();
        appendLooksAtTheArgumentsBeforeTheRoom();
        appendAnswersTheNumber();
        changeMakesTheInstruction();
        changeRefusesWhereThereIsNoInstruction();
        changeRefusesAsAppendDoes();
        changeAnswersTheOpBefore();
        clearRemovesAll();
        clearRemovesInstructionsAlone();
        sizeCounts();
        due.end();
    }

    private static void programHasAtMostTwenty() {
        due.sentence("A PROGRAM is a list of at most 20 INSTRUCTIONS,");
        GasMeter m = Due.withHalts(19);
        due.is("the twentieth", m.append(Due.PUSH, 5), 19);
        due.is("a twenty-first", m.append(Due.HALT, 0), GasMeter.FULL);
        due.is("a twenty-second", m.append(Due.HALT, 0), GasMeter.FULL);
        due.is("size", m.size(), 20);
        m.change(0, Due.JUMP, 19);
        due.is("the twentieth is worked off", Due.runWith(m, 6), "ending 1 place 20 steps 2 spent 6 pile [5]");
        m.clear();
        due.is("append when there is room again", m.append(Due.HALT, 0), 0);
    }

    private static void instructionsAreNumberedFromZero() {
        due.sentence("numbered 0, 1, ..;");
        for (int i = 0; i < 20; i++) {
            GasMeter m = Due.withHalts(20);
            due.is("change(" + i + ")", m.change(i, Due.PUSH, 7), Due.HALT);
            if (i > 0) {
                m.change(0, Due.JUMP, i);
            }
            m.fund(6);
            m.run();
            due.is("instruction " + i + " in a run", Due.pileOf(m), "[7]");
            due.is("place behind instruction " + i, m.place(), i + 1);
        }
    }

    /** Whether append and change take the instruction; what they refuse leaves the program as it was. */
    private static void accepts(int op, int a, boolean wanted) {
        String instruction = "(" + op + ", " + a + ")";
        GasMeter m = Due.with(Due.HALT, 0);
        due.is("append" + instruction, m.append(op, a), wanted ? 1 : GasMeter.BAD_ARG);
        due.is("size after append" + instruction, m.size(), wanted ? 2 : 1);
        GasMeter c = Due.with(Due.HALT, 0);
        due.is("change to " + instruction, c.change(0, op, a), wanted ? Due.HALT : GasMeter.BAD_ARG);
        due.is("size after change to " + instruction, c.size(), 1);
        due.is("op after change to " + instruction, c.change(0, Due.HALT, 0), wanted ? op : Due.HALT);
    }

    private static void acceptsJust(int op, int least, int most) {
        for (int a = least; a <= most; a++) {
            accepts(op, a, true);
        }
        for (int a : new int[] {MIN, least - 2, least - 1, most + 1, most + 2, MAX}) {
            accepts(op, a, false);
        }
    }

    private static void numbersOfPushVariablesAndJumps() {
        due.sentence("(n from -100 to 100,");
        acceptsJust(Due.PUSH, -100, 100);
        due.is("the least n", Due.runWith(Due.with(Due.PUSH, -100), 2), "ending 1 place 1 steps 1 spent 2 pile [-100]");
        due.is("the most n", Due.runWith(Due.with(Due.PUSH, 100), 2), "ending 1 place 1 steps 1 spent 2 pile [100]");
        due.sentence("v from 0 to 3,");
        acceptsJust(Due.GET, 0, 3);
        acceptsJust(Due.SET, 0, 3);
        due.sentence("k from 0 to 20.)");
        acceptsJust(Due.JUMP, 0, 20);
        acceptsJust(Due.BRANCH, 0, 20);
    }

    private static void appendTakesAnyNumberWhereThereIsNone() {
        due.sentence("Appends the instruction op with the number a (whatever it is for those that have none).");
        for (int op : WITHOUT_NUMBER) {
            for (int a : new int[] {0, -1, 4, 21, 101, -101, MIN, MAX}) {
                accepts(op, a, true);
                GasMeter plain = Due.with(Due.PUSH, 9, Due.PUSH, 6, op, 0);
                GasMeter odd = Due.with(Due.PUSH, 9, Due.PUSH, 6, op, a);
                due.is("op " + op + " with " + a + " in a run", Due.runWith(odd, 50), Due.runWith(plain, 50));
            }
        }
    }

    private static void appendRefusesAnOpOutOfRange() {
        due.sentence("op not 0 to 14,");
        accepts(0, 0, true);
        accepts(14, 0, true);
        for (int op : new int[] {MIN, -2, -1, 15, 16, 256, MAX}) {
            accepts(op, 0, false);
        }
    }

    private static void appendRefusesANumberOutOfRange() {
        due.sentence("or a not in the range of its n, v or k, answers BAD_ARG;");
        // Each of these is in the range of one of the three, so a range that is another's shows.
        int[] numbers = {-101, -100, -1, 0, 3, 4, 20, 21, 100, 101};
        for (int a : numbers) {
            accepts(Due.PUSH, a, a >= -100 && a <= 100);
            accepts(Due.GET, a, a >= 0 && a <= 3);
            accepts(Due.SET, a, a >= 0 && a <= 3);
            accepts(Due.JUMP, a, a >= 0 && a <= 20);
            accepts(Due.BRANCH, a, a >= 0 && a <= 20);
        }
    }

    private static void appendLooksAtTheArgumentsBeforeTheRoom() {
        due.sentence("Tested in this order:");
        int[][] bad = {{-1, 0}, {15, 0}, {MIN, MIN}, {MAX, MAX}, {Due.PUSH, 101}, {Due.PUSH, -101}, {Due.GET, 4},
            {Due.GET, -1}, {Due.SET, 4}, {Due.SET, -1}, {Due.JUMP, 21}, {Due.JUMP, -1}, {Due.BRANCH, 21},
            {Due.BRANCH, -1}};
        GasMeter full = Due.withHalts(20);
        GasMeter almost = Due.withHalts(19);
        for (int[] b : bad) {
            due.is("append(" + b[0] + ", " + b[1] + ") to 20", full.append(b[0], b[1]), GasMeter.BAD_ARG);
            due.is("append(" + b[0] + ", " + b[1] + ") to 19", almost.append(b[0], b[1]), GasMeter.BAD_ARG);
        }
        due.sentence("answers BAD_ARG; FULL.");
        for (int op = 0; op < 15; op++) {
            due.is("append(" + op + ", 0) to 20", full.append(op, 0), GasMeter.FULL);
            due.is("append(" + op + ", 0) to 19", Due.withHalts(19).append(op, 0), 19);
        }
    }

    private static void appendAnswersTheNumber() {
        due.sentence("Otherwise its number.");
        GasMeter m = new GasMeter();
        for (int i = 0; i < 20; i++) {
            due.is("append " + i, m.append(i % 15, 1), i);
        }
        GasMeter c = Due.withHalts(7);
        c.clear();
        due.is("append after clear", c.append(Due.PUSH, 1), 0);
        due.is("append after a refused one", c.append(15, 1) == GasMeter.BAD_ARG ? c.append(Due.PUSH, 1) : -9, 1);
        c.change(0, Due.ADD, 0);
        due.is("append after change", c.append(Due.PUSH, 1), 2);
    }

    private static void changeMakesTheInstruction() {
        due.sentence("Instruction i becomes op with the number a.");
        for (int i = 0; i < 3; i++) {
            GasMeter m = Due.with(Due.PUSH, 1, Due.PUSH, 2, Due.PUSH, 3);
            m.change(i, Due.PUSH, -100);
            due.is("push changed at " + i, Due.runWith(m, 6), "ending 1 place 3 steps 3 spent 6 pile ["
                + (i == 0 ? -100 : 1) + " " + (i == 1 ? -100 : 2) + " " + (i == 2 ? -100 : 3) + "]");
        }
        GasMeter m = Due.with(Due.PUSH, 1, Due.PUSH, 2, Due.PUSH, 3);
        m.change(1, Due.DUP, 50);
        due.is("push changed to dup", Due.runWith(m, 6), "ending 1 place 3 steps 3 spent 6 pile [1 1 3]");
        m.change(1, Due.GET, 3);
        m.set(3, 8);
        due.is("dup changed to get", Due.runWith(m, 7), "ending 1 place 3 steps 3 spent 7 pile [1 8 3]");
        due.is("size", m.size(), 3);
    }

    private static void changeRefusesWhereThereIsNoInstruction() {
        due.sentence("BAD_ARG if there is no instruction i,");
        for (int size = 0; size <= 20; size++) {
            GasMeter m = Due.withHalts(size);
            for (int i : new int[] {MIN, -1, size, size + 1, 19, 20, 21, MAX}) {
                due.is("change(" + i + ") of " + size, m.change(i, Due.PUSH, 1), i == 19 && size == 20
                    ? Due.HALT : GasMeter.BAD_ARG);
            }
            if (size > 0) {
                due.is("change(0) of " + size, m.change(0, Due.ADD, 1), Due.HALT);
                due.is("change the last of " + size, m.change(size - 1, Due.ADD, 1),
                    size == 1 ? Due.ADD : size == 20 ? Due.PUSH : Due.HALT);
            }
            due.is("size", m.size(), size);
        }
        GasMeter cleared = Due.withHalts(3);
        cleared.clear();
        due.is("change(0) after clear", cleared.change(0, Due.HALT, 0), GasMeter.BAD_ARG);
        cleared.append(Due.PUSH, 1);
        due.is("change(1) of one after clear", cleared.change(1, Due.HALT, 0), GasMeter.BAD_ARG);
    }

    private static void changeRefusesAsAppendDoes() {
        due.sentence("or as for append.");
        int[][] bad = {{-1, 0}, {15, 0}, {MIN, 0}, {MAX, 0}, {Due.PUSH, -101}, {Due.PUSH, 101}, {Due.GET, -1},
            {Due.GET, 4}, {Due.SET, -1}, {Due.SET, 4}, {Due.JUMP, -1}, {Due.JUMP, 21}, {Due.BRANCH, -1},
            {Due.BRANCH, 21}};
        GasMeter m = Due.with(Due.PUSH, 1, Due.PUSH, 2);
        for (int[] b : bad) {
            for (int i = -1; i <= 2; i++) {
                due.is("change(" + i + ", " + b[0] + ", " + b[1] + ")", m.change(i, b[0], b[1]), GasMeter.BAD_ARG);
            }
        }
        due.is("run after refused changes", Due.runWith(m, 9), "ending 1 place 2 steps 2 spent 4 pile [1 2]");
        // A change needs no room, so a program that is full is no reason to refuse it.
        GasMeter full = Due.withHalts(20);
        for (int i = 0; i < 20; i++) {
            due.is("change(" + i + ") of 20", full.change(i, Due.PUSH, 1), Due.HALT);
        }
        due.is("change(20) of 20", full.change(20, Due.PUSH, 1), GasMeter.BAD_ARG);
    }

    private static void changeAnswersTheOpBefore() {
        due.sentence("Otherwise the op before.");
        GasMeter m = new GasMeter();
        for (int op = 0; op < 15; op++) {
            m.append(op, 0);
        }
        for (int op = 0; op < 15; op++) {
            due.is("change " + op, m.change(op, 14 - op, 1), op);
        }
        for (int op = 0; op < 15; op++) {
            due.is("change to the same " + op, m.change(op, 14 - op, 2), 14 - op);
            due.is("change again " + op, m.change(op, 0, 0), 14 - op);
        }
    }

    private static void clearRemovesAll() {
        due.sentence("Removes all instructions.");
        for (int size = 0; size <= 20; size++) {
            GasMeter m = Due.withHalts(size);
            m.clear();
            due.is("size after clear of " + size, m.size(), 0);
            m.clear();
            due.is("size after a second clear", m.size(), 0);
            Due.load(m, Due.JUMP, 1);
            due.is("nothing of the old program runs", Due.runWith(m, 4), "ending 1 place 1 steps 1 spent 4 pile []");
        }
        GasMeter gone = Due.with(Due.PUSH, 1);
        gone.clear();
        due.is("run after clear", Due.runWith(gone, 9), "ending 1 place 0 steps 0 spent 0 pile []");
        due.is("bill after clear", gone.bill(), 0);
    }

    private static void clearRemovesInstructionsAlone() {
        due.sentence("Promise 4: clear");
        GasMeter m = Due.with(Due.PUSH, 4, Due.SET, 3, Due.PUSH, 6, Due.ADD, 0);
        m.fund(100);
        m.run();
        m.clear();
        due.is("after clear", Due.everything(m),
            "size 0 gas 92 variables 0 0 0 4 ending 3 place 3 steps 3 spent 8 pile [6]");
    }

    private static void sizeCounts() {
        due.sentence("The number of instructions.");
        GasMeter m = new GasMeter();
        due.is("size of nothing", m.size(), 0);
        for (int i = 1; i <= 20; i++) {
            m.append(Due.PUSH, i);
            due.is("size after append " + i, m.size(), i);
            m.append(15, 0);
            due.is("size after a refused append", m.size(), i);
            m.change(0, Due.DUP, 0);
            m.change(i, Due.DUP, 0);
            due.is("size after changes", m.size(), i);
        }
        m.append(Due.PUSH, 1);
        due.is("size after an append to 20", m.size(), 20);
        m.run();
        m.bill();
        due.is("size after run and bill", m.size(), 20);
        m.clear();
        due.is("size after clear", m.size(), 0);
    }
}
