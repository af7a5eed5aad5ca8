/**
 * The table of instructions, row by row: what each does and costs; and for all of them together the wrap of their
 * arithmetic, the numbers they need on the pile and the room they need there, and the gas they need.
 */
public final class InstructionTest {
    private static final Due due = new Due();
    private static final int MIN = Integer.MIN_VALUE;
    private static final int MAX = Integer.MAX_VALUE;

    private static final int[] NEEDS = {0, 2, 2, 2, 2, 1, 2, 1, 0, 1, 0, 1, 1, 0, 0};
    // On a pile of 1 and 2, where a spin costs 1 and, further, 2.
    private static final int[] PRICES = {2, 3, 3, 5, 3, 2, 2, 1, 3, 4, 4, 5, 3, 2, 0};
    private static final int[] GROWS = {1, -1, -1, -1, -1, 1, 0, -1, 1, -1, 0, -1, -1, 1, 0};

    public static void main(String[] args) {
        push();
        addSubMul();
        less();
        dupSwapDrop();
        getAndSet();
        jump();
        branch();
        spin();
        gas();
        halt();
        arithmeticWraps();
        pileHoldsAtMostEight();
        needsMoreNumbersThanThePileHas();
        wouldPutANinth();
        eachHasAPrice();
        priceIsMoreThanTheGas();
        due.end();
    }

    /**
     * Variables 0 and 1 are put on the pile (6 gas, 2 steps), then op is worked off as instruction 2: with just the gas
     * it costs, with 1 more, and with 1 less, when it isn't.
     */
    private static void pair(int x, int y, int op, int a, int price, String pile) {
        for (int more = price == 0 ? 0 : -1; more <= 1; more++) {
            GasMeter m = Due.with(Due.GET, 0, Due.GET, 1, op, a);
            m.set(0, x);
            m.set(1, y);
            String what = x + " " + y + " op " + op + " number " + a + " with " + (price + more) + " gas for it";
            due.is(what, Due.runWith(m, 6 + price + more), more < 0
                ? "ending 4 place 2 steps 2 spent 6 pile [" + x + " " + y + "]"
                : "ending 1 place " + (op == Due.HALT ? 2 : 3) + " steps 3 spent " + (6 + price) + " pile " + pile);
            due.is(what + ": gas", m.gas(), more < 0 ? price - 1 : more);
        }
    }

    private static void push() {
        due.sentence("0 push n price 2 puts n on the pile");
        for (int n = -100; n <= 100; n++) {
            pair(7, 3, Due.PUSH, n, 2, "[7 3 " + n + "]");
        }
    }

    private static void addSubMul() {
        due.sentence("1 add price 3 takes y, then x off, puts x + y on");
        pair(7, 3, Due.ADD, 0, 3, "[10]");
        pair(3, -7, Due.ADD, 0, 3, "[-4]");
        due.sentence("2 sub price 3 the same with x - y");
        pair(7, 3, Due.SUB, 0, 3, "[4]");
        pair(3, 7, Due.SUB, 0, 3, "[-4]");
        pair(3, 3, Due.SUB, 0, 3, "[0]");
        due.sentence("3 mul price 5 the same with x * y");
        pair(7, 3, Due.MUL, 0, 5, "[21]");
        pair(7, -3, Due.MUL, 0, 5, "[-21]");
        pair(7, 0, Due.MUL, 0, 5, "[0]");
    }

    private static void less() {
        due.sentence("4 less price 3 the same with 1 if x < y, else 0");
        pair(3, 7, Due.LESS, 0, 3, "[1]");
        pair(7, 3, Due.LESS, 0, 3, "[0]");
        pair(4, 5, Due.LESS, 0, 3, "[1]");
        pair(5, 5, Due.LESS, 0, 3, "[0]");
        pair(6, 5, Due.LESS, 0, 3, "[0]");
        pair(-1, 0, Due.LESS, 0, 3, "[1]");
        pair(0, -1, Due.LESS, 0, 3, "[0]");
        // A difference of these wraps, so that its sign tells the contrary.
        pair(MIN, MAX, Due.LESS, 0, 3, "[1]");
        pair(MAX, MIN, Due.LESS, 0, 3, "[0]");
        pair(MIN, 1, Due.LESS, 0, 3, "[1]");
        pair(1, MIN, Due.LESS, 0, 3, "[0]");
        pair(MIN, MIN, Due.LESS, 0, 3, "[0]");
    }

    private static void dupSwapDrop() {
        due.sentence("5 dup price 2 puts the top once more on");
        pair(7, 3, Due.DUP, 0, 2, "[7 3 3]");
        due.sentence("6 swap price 2 exchanges the two topmost");
        pair(7, 3, Due.SWAP, 0, 2, "[3 7]");
        due.is("swap of three", Due.runWith(Due.with(Due.PUSH, 1, Due.PUSH, 2, Due.PUSH, 3, Due.SWAP, 0), 8),
            "ending 1 place 4 steps 4 spent 8 pile [1 3 2]");
        due.sentence("7 drop price 1 takes the top off");
        pair(7, 3, Due.DROP, 0, 1, "[7]");
    }

    private static void getAndSet() {
        due.sentence("8 get v price 3 puts variable v on the pile");
        pair(7, 3, Due.GET, 0, 3, "[7 3 7]");
        pair(7, 3, Due.GET, 1, 3, "[7 3 3]");
        pair(7, 3, Due.GET, 2, 3, "[7 3 0]");
        pair(7, 3, Due.GET, 3, 3, "[7 3 0]");
        for (int v = 0; v < 4; v++) {
            GasMeter m = Due.with(Due.GET, v);
            for (int w = 0; w < 4; w++) {
                m.set(w, 10 + w);
            }
            due.is("get " + v, Due.runWith(m, 3), "ending 1 place 1 steps 1 spent 3 pile [" + (10 + v) + "]");
            due.is("variable " + v + " after it", m.get(v), 10 + v);
        }
        due.sentence("9 set v price 4 takes the top off, variable v becomes it");
        for (int v = 0; v < 4; v++) {
            pair(7, 3, Due.SET, v, 4, "[7]");
            GasMeter m = Due.with(Due.PUSH, 55, Due.SET, v);
            Due.runWith(m, 6);
            for (int w = 0; w < 4; w++) {
                due.is("set " + v + ": variable " + w, m.get(w), w == v ? 55 : 0);
            }
        }
    }

    private static void jump() {
        due.sentence("10 jump k price 4 goes on at instruction k");
        pair(7, 3, Due.JUMP, 3, 4, "[7 3]");
        GasMeter m = Due.with(Due.JUMP, 2, Due.HALT, 0, Due.PUSH, 1, Due.JUMP, 1);
        due.is("jump on and back", Due.runWith(m, 10), "ending 1 place 1 steps 4 spent 10 pile [1]");
        for (int k = 0; k <= 20; k++) {
            GasMeter full = Due.withHalts(20);
            full.change(19, Due.JUMP, k);
            full.change(0, Due.JUMP, 19);
            if (k == 0 || k == 19) {
                due.is("jump " + k + " in a ring", Due.runWith(full, 1200),
                    "ending 2 place " + (k == 0 ? 0 : 19) + " steps 300 spent 1200 pile []");
            } else {
                due.is("jump " + k + " from 19", Due.runWith(full, 8),
                    "ending 1 place " + k + " steps " + (k == 20 ? 2 : 3) + " spent 8 pile []");
            }
        }
    }

    private static void branch() {
        due.sentence("11 branch k price 5 takes the top off; goes on at instruction k if it was not 0");
        pair(7, 1, Due.BRANCH, 3, 5, "[7]");
        pair(7, 0, Due.BRANCH, 1, 5, "[7]");
        for (int top : new int[] {MIN, -256, -2, -1, 0, 1, 2, 256, 65536, MAX}) {
            GasMeter m = Due.with(Due.GET, 0, Due.BRANCH, 4, Due.PUSH, 10, Due.HALT, 0, Due.PUSH, 20);
            m.set(0, top);
            due.is("branch on " + top, Due.runWith(m, 100), top == 0
                ? "ending 1 place 3 steps 4 spent 10 pile [10]" : "ending 1 place 5 steps 3 spent 10 pile [20]");
        }
        for (int k = 2; k <= 20; k++) {
            due.is("branch " + k, Due.runWith(Due.with(Due.PUSH, 1, Due.BRANCH, k), 7),
                "ending 1 place " + k + " steps 2 spent 7 pile []");
            due.is("no branch " + k, Due.runWith(Due.with(Due.PUSH, 0, Due.BRANCH, k), 7),
                "ending 1 place 2 steps 2 spent 7 pile []");
        }
        GasMeter back = Due.with(Due.JUMP, 2, Due.HALT, 0, Due.PUSH, 1, Due.BRANCH, 1);
        due.is("branch back", Due.runWith(back, 11), "ending 1 place 1 steps 4 spent 11 pile []");
    }

    private static void spin() {
        due.sentence("12 spin price 1 and, further, the top of the pile & 15: takes the top off");
        for (int top = -40; top <= 40; top++) {
            pair(7, top, Due.SPIN, 0, 1 + Math.floorMod(top, 16), "[7]");
        }
        pair(7, MIN, Due.SPIN, 0, 1, "[7]");
        pair(7, MIN + 1, Due.SPIN, 0, 2, "[7]");
        pair(7, MAX - 15, Due.SPIN, 0, 1, "[7]");
        pair(7, MAX, Due.SPIN, 0, 16, "[7]");
    }

    private static void gas() {
        due.sentence("13 gas price 2 puts the gas that is left, after paying, on the pile");
        for (int left = 0; left <= 3; left++) {
            due.is("gas that leaves " + left, Due.runWith(Due.with(Due.GAS, 0), 2 + left),
                "ending 1 place 1 steps 1 spent 2 pile [" + left + "]");
        }
        for (int too = 0; too <= 1; too++) {
            due.is("gas with " + too, Due.runWith(Due.with(Due.GAS, 0), too), "ending 4 place 0 steps 0 spent 0 pile []");
        }
        GasMeter m = Due.with(Due.GAS, 0, Due.PUSH, 1, Due.GAS, 0);
        due.is("gas twice", Due.runWith(m, 100000), "ending 1 place 3 steps 3 spent 6 pile [99998 1 99994]");
        due.is("gas: gas", m.gas(), 99994);
    }

    private static void halt() {
        due.sentence("14 halt price 0 the run ends HALTED");
        pair(7, 3, Due.HALT, 0, 0, "[7 3]");
        due.is("halt without gas", Due.runWith(Due.with(Due.HALT, 0, Due.PUSH, 1), 0),
            "ending 1 place 0 steps 1 spent 0 pile []");
    }

    private static void arithmeticWraps() {
        due.sentence("All arithmetic is that of Java ints (it wraps).");
        pair(MAX - 1, 1, Due.ADD, 0, 3, "[" + MAX + "]");
        pair(MAX, 1, Due.ADD, 0, 3, "[" + MIN + "]");
        pair(MAX, MAX, Due.ADD, 0, 3, "[-2]");
        pair(MIN + 1, -1, Due.ADD, 0, 3, "[" + MIN + "]");
        pair(MIN, -1, Due.ADD, 0, 3, "[" + MAX + "]");
        pair(MIN, MIN, Due.ADD, 0, 3, "[0]");
        pair(MIN + 1, 1, Due.SUB, 0, 3, "[" + MIN + "]");
        pair(MIN, 1, Due.SUB, 0, 3, "[" + MAX + "]");
        pair(MAX - 1, -1, Due.SUB, 0, 3, "[" + MAX + "]");
        pair(MAX, -1, Due.SUB, 0, 3, "[" + MIN + "]");
        pair(0, MIN + 1, Due.SUB, 0, 3, "[" + MAX + "]");
        pair(0, MIN, Due.SUB, 0, 3, "[" + MIN + "]");
        pair(46340, 46340, Due.MUL, 0, 5, "[2147395600]");
        pair(46341, 46341, Due.MUL, 0, 5, "[-2147479015]");
        pair(1 << 30, 2, Due.MUL, 0, 5, "[" + MIN + "]");
        pair(65536, 65536, Due.MUL, 0, 5, "[0]");
        pair(1000000, 1000000, Due.MUL, 0, 5, "[-727379968]");
        pair(MIN, -1, Due.MUL, 0, 5, "[" + MIN + "]");
        pair(MIN, MIN, Due.MUL, 0, 5, "[0]");
        pair(MAX, MAX, Due.MUL, 0, 5, "[1]");
    }

    private static void pileHoldsAtMostEight() {
        due.sentence("a PILE holds at most 8 ints;");
        String pile = "";
        for (int n = 1; n <= 8; n++) {
            pile += (n == 1 ? "" : " ") + n;
            due.is(n + " numbers", Due.runWith(Due.withPileOf(n), 100),
                "ending 1 place " + n + " steps " + n + " spent " + 2 * n + " pile [" + pile + "]");
        }
        for (int n = 9; n <= 20; n++) {
            due.is(n + " numbers", Due.runWith(Due.withPileOf(n), 100),
                "ending 3 place 8 steps 8 spent 16 pile [" + pile + "]");
        }
        GasMeter m = Due.with(Due.GET, 0, Due.GET, 1, Due.GET, 0, Due.GET, 1, Due.GET, 0, Due.GET, 1, Due.GET, 0,
            Due.GET, 1);
        m.set(0, MIN);
        m.set(1, MAX);
        String two = MIN + " " + MAX;
        due.is("eight of the greatest", Due.runWith(m, 24),
            "ending 1 place 8 steps 8 spent 24 pile [" + two + " " + two + " " + two + " " + two + "]");
    }

    /** As many numbers as told, then op, whose number lets a jump go on behind it. */
    private static GasMeter heightThen(int height, int op) {
        GasMeter m = Due.withPileOf(height);
        Due.load(m, op, op == Due.JUMP || op == Due.BRANCH ? height + 1 : 0);
        return m;
    }

    private static String pileUpTo(int height) {
        StringBuilder s = new StringBuilder("[");
        for (int i = 1; i <= height; i++) {
            s.append(i == 1 ? "" : " ").append(i);
        }
        return s.append("]").toString();
    }

    private static void isTrapped(int height, int op) {
        String want = "ending 3 place " + height + " steps " + height + " spent " + 2 * height + " pile " + pileUpTo(height);
        due.is("op " + op + " on " + height, Due.runWith(heightThen(height, op), 2 * height + 50), want);
    }

    private static void isWorkedOff(int height, int op) {
        GasMeter m = heightThen(height, op);
        m.fund(2 * height + 50);
        due.is("op " + op + " on " + height, m.run(), GasMeter.HALTED);
        due.is("op " + op + " on " + height + ": steps", m.steps(), height + 1);
        due.is("op " + op + " on " + height + ": height", m.height(), height + GROWS[op]);
    }

    private static void needsMoreNumbersThanThePileHas() {
        due.sentence("if the instruction needs more numbers than the pile has,");
        for (int op = 0; op < 15; op++) {
            for (int height = 0; height < NEEDS[op]; height++) {
                isTrapped(height, op);
            }
            isWorkedOff(NEEDS[op], op);
            isWorkedOff(NEEDS[op] + 1, op);
        }
    }

    private static void wouldPutANinth() {
        due.sentence("or would put a ninth on it, it ends TRAPPED;");
        for (int op = 0; op < 15; op++) {
            isWorkedOff(6, op);
            isWorkedOff(7, op);
            if (GROWS[op] > 0) {
                isTrapped(8, op);
            } else {
                // These put no more on than they have taken off before.
                isWorkedOff(8, op);
            }
        }
    }

    private static void eachHasAPrice() {
        due.sentence("each has a PRICE.");
        for (int op = 0; op < 15; op++) {
            GasMeter m = heightThen(2, op);
            m.fund(2000);
            m.run();
            due.is("spent on op " + op, m.spent() - 4, PRICES[op]);
            due.is("gas after op " + op, m.gas(), 2000 - 4 - PRICES[op]);
        }
    }

    private static void priceIsMoreThanTheGas() {
        due.sentence("if its price is more than the gas, it ends BROKE; else the price is taken from the gas and the "
            + "instruction is worked off.");
        for (int op = 0; op < 15; op++) {
            for (int gas = 0; gas <= 8; gas++) {
                GasMeter m = heightThen(2, op);
                m.fund(4 + gas);
                boolean enough = PRICES[op] <= gas;
                String what = "op " + op + " with " + gas + " gas for it";
                due.is(what, m.run(), enough ? GasMeter.HALTED : GasMeter.BROKE);
                due.is(what + ": gas", m.gas(), enough ? gas - PRICES[op] : gas);
                due.is(what + ": steps", m.steps(), enough ? 3 : 2);
                due.is(what + ": place", m.place(), enough && op != Due.HALT ? 3 : 2);
            }
        }
    }
}
