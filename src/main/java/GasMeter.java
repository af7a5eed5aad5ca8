/**
 * Programs for a pile machine that pay for every instruction before it is worked off,
 * and stop where the money ends.
 */
public final class GasMeter {
    public static final int BAD_ARG = -1;
    public static final int FULL = -2;
    public static final int NO_RUN = 0;
    public static final int HALTED = 1;
    public static final int TIRED = 2;
    public static final int TRAPPED = 3;
    public static final int BROKE = 4;

    private static final int OP_PUSH = 0;
    private static final int OP_ADD = 1;
    private static final int OP_SUB = 2;
    private static final int OP_MUL = 3;
    private static final int OP_LESS = 4;
    private static final int OP_DUP = 5;
    private static final int OP_SWAP = 6;
    private static final int OP_DROP = 7;
    private static final int OP_GET = 8;
    private static final int OP_SET = 9;
    private static final int OP_JUMP = 10;
    private static final int OP_BRANCH = 11;
    private static final int OP_SPIN = 12;
    private static final int OP_GAS = 13;
    private static final int OP_HALT = 14;

    private static final int PROGRAM_ROOM = 20;
    private static final int VARIABLES = 4;
    private static final int PILE_ROOM = 8;
    private static final int MOST_STEPS = 300;
    private static final int MOST_PUSHED = 100;
    private static final int MOST_FUNDED = 2000;
    private static final int MOST_GAS = 100000;
    private static final int SPIN_MASK = 15;

    private static final int NO_BILL = -1;
    private static final int GOING_ON = NO_RUN;

    private final int[] ops = new int[PROGRAM_ROOM];
    private final int[] numbers = new int[PROGRAM_ROOM];
    private final int[] variables = new int[VARIABLES];
    private final int[] lastPile = new int[PILE_ROOM];

    // A bill is found by a trial run, which must leave the real variables and pile alone.
    private final int[] trialVariables = new int[VARIABLES];
    private final int[] trialPile = new int[PILE_ROOM];

    private int programSize;
    private int gasLeft;

    private int lastEnding;
    private int lastPlace;
    private int lastSteps;
    private int lastSpent;
    private int lastHeight;

    // The run in hand, real or trial; kept apart from the last run's answers for the trial's sake.
    private int nowPlace;
    private int nowSteps;
    private int nowHeight;
    private int purse;

    // Every field begins as 0, and a new object is just that: NO_RUN is 0 too.
    public GasMeter() {
    }

    public int append(int op, int a) {
        if (!isInstruction(op, a)) {
            return BAD_ARG;
        }
        if (programSize >= PROGRAM_ROOM) {
            return FULL;
        }
        int i = programSize;
        ops[i] = op;
        numbers[i] = a;
        programSize = i + 1;
        return i;
    }

    public int change(int i, int op, int a) {
        if (i < 0 || i >= programSize || !isInstruction(op, a)) {
            return BAD_ARG;
        }
        int before = ops[i];
        ops[i] = op;
        numbers[i] = a;
        return before;
    }

    public void clear() {
        programSize = 0;
    }

    public int size() {
        return programSize;
    }

    public int set(int v, int x) {
        if (!isVariable(v)) {
            return BAD_ARG;
        }
        variables[v] = x;
        return 0;
    }

    public int get(int v) {
        return isVariable(v) ? variables[v] : 0;
    }

    public int fund(int g) {
        if (g < 0 || g > MOST_FUNDED || gasLeft + g > MOST_GAS) {
            return BAD_ARG;
        }
        gasLeft += g;
        return gasLeft;
    }

    public int gas() {
        return gasLeft;
    }

    public int run() {
        lastEnding = execute(variables, lastPile, gasLeft);
        lastPlace = nowPlace;
        lastSteps = nowSteps;
        lastSpent = gasLeft - purse;
        lastHeight = nowHeight;
        gasLeft = purse;
        return lastEnding;
    }

    public int ending() {
        return lastEnding;
    }

    public int place() {
        return lastPlace;
    }

    public int steps() {
        return lastSteps;
    }

    public int spent() {
        return lastSpent;
    }

    public int height() {
        return lastHeight;
    }

    public int pile(int i) {
        return i >= 0 && i < lastHeight ? lastPile[i] : 0;
    }

    public int bill() {
        if (programReadsGas()) {
            return NO_BILL;
        }
        for (int v = 0; v < VARIABLES; v++) {
            trialVariables[v] = variables[v];
        }
        // No program can look at the gas here, so the way of a run that never goes broke is the way
        // of every run, and what it takes is the least that is enough. 300 steps of the dearest
        // instruction (a spin at 16) take 4800, far below the trial's purse.
        execute(trialVariables, trialPile, MOST_GAS);
        return MOST_GAS - purse;
    }

    private static boolean isVariable(int v) {
        return v >= 0 && v < VARIABLES;
    }

    private static boolean isInstruction(int op, int a) {
        switch (op) {
            case OP_PUSH:
                return a >= -MOST_PUSHED && a <= MOST_PUSHED;
            case OP_GET:
            case OP_SET:
                return isVariable(a);
            case OP_JUMP:
            case OP_BRANCH:
                return a >= 0 && a <= PROGRAM_ROOM;
            default:
                return op >= OP_PUSH && op <= OP_HALT;
        }
    }

    private boolean programReadsGas() {
        for (int i = 0; i < programSize; i++) {
            if (ops[i] == OP_GAS) {
                return true;
            }
        }
        return false;
    }

    private int execute(int[] vars, int[] stack, int money) {
        nowPlace = 0;
        nowSteps = 0;
        nowHeight = 0;
        purse = money;
        int end = GOING_ON;
        // One turn more than there are steps: the turn after the last step finds HALTED or TIRED.
        for (int turn = 0; turn <= MOST_STEPS && end == GOING_ON; turn++) {
            end = takeTurn(vars, stack);
        }
        return end;
    }

    private int takeTurn(int[] vars, int[] stack) {
        if (nowPlace >= programSize) {
            return HALTED;
        }
        if (nowSteps >= MOST_STEPS) {
            return TIRED;
        }
        int op = ops[nowPlace];
        if (nowHeight < needed(op) || nowHeight + growth(op) > PILE_ROOM) {
            return TRAPPED;
        }
        int price = fixedPrice(op);
        if (op == OP_SPIN) {
            price += stack[nowHeight - 1] & SPIN_MASK;
        }
        if (price > purse) {
            return BROKE;
        }
        purse -= price;
        nowSteps++;
        if (op == OP_HALT) {
            return HALTED;
        }
        workOff(op, numbers[nowPlace], vars, stack);
        return GOING_ON;
    }

    private static int needed(int op) {
        switch (op) {
            case OP_ADD:
            case OP_SUB:
            case OP_MUL:
            case OP_LESS:
            case OP_SWAP:
                return 2;
            case OP_DUP:
            case OP_DROP:
            case OP_SET:
            case OP_BRANCH:
            case OP_SPIN:
                return 1;
            default:
                return 0;
        }
    }

    // Only the growing ones matter: no other can put a ninth number on the pile.
    private static int growth(int op) {
        switch (op) {
            case OP_PUSH:
            case OP_DUP:
            case OP_GET:
            case OP_GAS:
                return 1;
            default:
                return 0;
        }
    }

    private static int fixedPrice(int op) {
        switch (op) {
            case OP_HALT:
                return 0;
            case OP_DROP:
            case OP_SPIN:
                return 1;
            case OP_PUSH:
            case OP_DUP:
            case OP_SWAP:
            case OP_GAS:
                return 2;
            case OP_ADD:
            case OP_SUB:
            case OP_LESS:
            case OP_GET:
                return 3;
            case OP_SET:
            case OP_JUMP:
                return 4;
            case OP_MUL:
            case OP_BRANCH:
            default:
                return 5;
        }
    }

    // The caller has seen to it that the pile has the numbers and the room that op needs.
    private void workOff(int op, int number, int[] vars, int[] stack) {
        int top = nowHeight - 1;
        nowPlace++;
        switch (op) {
            case OP_PUSH:
                put(stack, number);
                break;
            case OP_DUP:
                put(stack, stack[top]);
                break;
            case OP_SWAP:
                exchange(stack, top);
                break;
            case OP_DROP:
            case OP_SPIN:
                nowHeight = top;
                break;
            case OP_GET:
                put(stack, vars[number]);
                break;
            case OP_SET:
                vars[number] = stack[top];
                nowHeight = top;
                break;
            case OP_JUMP:
                nowPlace = number;
                break;
            case OP_BRANCH:
                if (stack[top] != 0) {
                    nowPlace = number;
                }
                nowHeight = top;
                break;
            case OP_GAS:
                put(stack, purse);
                break;
            default:
                stack[top - 1] = combined(op, stack[top - 1], stack[top]);
                nowHeight = top;
                break;
        }
    }

    private void put(int[] stack, int number) {
        stack[nowHeight] = number;
        nowHeight++;
    }

    private static void exchange(int[] stack, int top) {
        int upper = stack[top];
        stack[top] = stack[top - 1];
        stack[top - 1] = upper;
    }

    private static int combined(int op, int x, int y) {
        switch (op) {
            case OP_ADD:
                return x + y;
            case OP_SUB:
                return x - y;
            case OP_MUL:
                return x * y;
            default:
                return x < y ? 1 : 0;
        }
    }
}
