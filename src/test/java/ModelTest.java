import java.util.ArrayList;
import java.util.List;

/**
 * All promises together: long runs of calls, drawn by a fixed row of numbers, against a second machine that is
 * written from the document alone, with tables and lists, and finds the bill by trying every amount of gas.
 */
public final class ModelTest {
    private static final int OBJECTS = 8000;
    // Asking for everything after each call takes up to 27 calls, and an object is promised for 512.
    private static final int CALLS = 15;

    private static final Due due = new Due();
    private static final int[] endings = new int[5];
    private static int bills = 0;
    private static long seed = 20261115;

    private static int draw(int bound) {
        seed = seed * 6364136223846793005L + 1442695040888963407L;
        return (int) ((seed >>> 33) % bound);
    }

    public static void main(String[] args) {
        for (int i = 0; i < OBJECTS; i++) {
            compare(i);
        }
        System.out.println("runs HALTED " + endings[1] + ", TIRED " + endings[2] + ", TRAPPED " + endings[3] + ", BROKE "
            + endings[4] + "; bills " + bills);
        for (int e = GasMeter.HALTED; e <= GasMeter.BROKE; e++) {
            due.is("enough runs that ended " + e, "" + (endings[e] >= 300), "true");
        }
        due.is("enough bills", "" + (bills >= 500), "true");
        due.end();
    }

    private static void compare(int object) {
        GasMeter m = new GasMeter();
        Model w = new Model();
        boolean inBlocks = draw(2) == 0;
        for (int i = draw(inBlocks ? 8 : 21); i > 0; i--) {
            for (int op : inBlocks ? drawBlock() : new int[] {drawOp()}) {
                int a = drawNumber(op);
                due.is("object " + object + " append(" + op + ", " + a + ")", m.append(op, a), w.append(op, a));
            }
        }
        int first = draw(2) == 0 ? 2000 : draw(100);
        due.is("object " + object + " fund(" + first + ")", m.fund(first), w.fund(first));
        for (int call = 0; call < CALLS; call++) {
            String what = "object " + object + " call " + call + " ";
            int kind = draw(12);
            if (kind < 2) {
                int op = drawOp();
                int a = drawNumber(op);
                due.is(what + "append(" + op + ", " + a + ")", m.append(op, a), w.append(op, a));
            } else if (kind < 5) {
                int i = draw(w.program.size() + 2) - (draw(20) == 0 ? 1 : 0);
                int op = drawOp();
                int a = drawNumber(op);
                due.is(what + "change(" + i + ", " + op + ", " + a + ")", m.change(i, op, a), w.change(i, op, a));
            } else if (kind == 5) {
                int v = draw(6) - 1;
                int x = draw(3) == 0 ? (int) seed : draw(9) - 2;
                due.is(what + "set(" + v + ", " + x + ")", m.set(v, x), w.set(v, x));
            } else if (kind == 6) {
                int g = draw(4) == 0 ? draw(2100) - 50 : draw(60);
                due.is(what + "fund(" + g + ")", m.fund(g), w.fund(g));
            } else if (kind < 9) {
                due.is(what + "run()", m.run(), w.run());
                endings[w.ending]++;
            } else if (kind == 9 || kind == 10) {
                due.is(what + "bill()", m.bill(), w.bill());
                bills++;
            } else if (draw(12) == 0) {
                m.clear();
                w.program.clear();
            }
            due.is(what + "then", Due.everything(m), w.everything());
        }
    }

    /** Ops that fill the pile are drawn more often, or most runs would end TRAPPED at once. */
    private static int drawOp() {
        int d = draw(40);
        if (d < 12) {
            return d % 2 == 0 ? Due.PUSH : Due.GET;
        }
        return d == 39 ? (draw(2) == 0 ? -1 : 15) : d == 38 ? Due.GAS : (d - 12) % 13;
    }

    /** Ops that leave the pile as high as it was: programs of these come round often enough to end TIRED. */
    private static int[] drawBlock() {
        int[][] blocks = {{Due.PUSH, Due.DROP}, {Due.GET, Due.SPIN}, {Due.GET, Due.BRANCH}, {Due.JUMP},
            {Due.GET, Due.PUSH, 1 + draw(4), Due.SET}, {Due.GET, Due.DUP, Due.SWAP, Due.SET, Due.BRANCH}};
        return blocks[draw(blocks.length)];
    }

    private static int drawNumber(int op) {
        if (draw(25) == 0) {
            return draw(3) == 0 ? (int) seed : draw(260) - 130;
        }
        if (op == Due.GET || op == Due.SET) {
            return draw(4);
        }
        if (op == Due.JUMP || op == Due.BRANCH) {
            return draw(draw(3) == 0 ? 21 : 7);
        }
        return draw(3) == 0 ? draw(201) - 100 : draw(5) - 1;
    }

    private static final class Model {
        static final int[] PRICE = {2, 3, 3, 5, 3, 2, 2, 1, 3, 4, 4, 5, 1, 2, 0};
        static final int[] TAKES = {0, 2, 2, 2, 2, 1, 2, 1, 0, 1, 0, 1, 1, 0, 0};
        static final int[] PUTS = {1, 1, 1, 1, 1, 2, 2, 0, 1, 0, 0, 0, 0, 1, 0};

        List<int[]> program = new ArrayList<>();
        int[] vars = new int[4];
        int gas = 0;
        int ending = 0;
        int place = 0;
        int steps = 0;
        int spent = 0;
        List<Integer> pile = new ArrayList<>();

        static boolean good(int op, int a) {
            if (op < 0 || op > 14) {
                return false;
            }
            int[] range = op == 0 ? new int[] {-100, 100} : op == 8 || op == 9 ? new int[] {0, 3}
                : op == 10 || op == 11 ? new int[] {0, 20} : new int[] {Integer.MIN_VALUE, Integer.MAX_VALUE};
            return range[0] <= a && a <= range[1];
        }

        int append(int op, int a) {
            if (!good(op, a)) {
                return -1;
            }
            if (program.size() == 20) {
                return -2;
            }
            program.add(new int[] {op, a});
            return program.size() - 1;
        }

        int change(int i, int op, int a) {
            return i < 0 || i >= program.size() || !good(op, a) ? -1 : program.set(i, new int[] {op, a})[0];
        }

        int set(int v, int x) {
            if (v < 0 || v > 3) {
                return -1;
            }
            vars[v] = x;
            return 0;
        }

        int fund(int g) {
            if (g < 0 || g > 2000 || gas + g > 100000) {
                return -1;
            }
            return gas += g;
        }

        int run() {
            int had = gas;
            place = 0;
            steps = 0;
            pile = new ArrayList<>();
            ending = 0;
            while (ending == 0) {
                turn();
            }
            spent = had - gas;
            return ending;
        }

        void turn() {
            if (place >= program.size()) {
                ending = 1;
                return;
            }
            if (steps == 300) {
                ending = 2;
                return;
            }
            int op = program.get(place)[0];
            int a = program.get(place)[1];
            if (pile.size() < TAKES[op] || pile.size() - TAKES[op] + PUTS[op] > 8) {
                ending = 3;
                return;
            }
            int price = PRICE[op] + (op == 12 ? pile.get(pile.size() - 1) & 15 : 0);
            if (price > gas) {
                ending = 4;
                return;
            }
            gas -= price;
            steps++;
            int y = TAKES[op] > 0 ? pile.remove(pile.size() - 1) : 0;
            int x = TAKES[op] > 1 ? pile.remove(pile.size() - 1) : 0;
            int[] puts = {op == 0 ? a : op == 1 ? x + y : op == 2 ? x - y : op == 3 ? x * y : op == 4 ? (x < y ? 1 : 0)
                : op == 5 ? y : op == 6 ? y : op == 8 ? vars[a] : gas, op == 5 ? y : x};
            for (int i = 0; i < PUTS[op]; i++) {
                pile.add(puts[i]);
            }
            if (op == 9) {
                vars[a] = y;
            }
            if (op == 14) {
                ending = 1;
            } else {
                place = op == 10 || op == 11 && y != 0 ? a : place + 1;
            }
        }

        int bill() {
            for (int[] instruction : program) {
                if (instruction[0] == 13) {
                    return -1;
                }
            }
            for (int g = 0;; g++) {
                Model trial = new Model();
                trial.program = program;
                trial.vars = vars.clone();
                trial.gas = g;
                if (trial.run() != 4) {
                    return g;
                }
            }
        }

        String everything() {
            return "size " + program.size() + " gas " + gas + " variables " + vars[0] + " " + vars[1] + " " + vars[2]
                + " " + vars[3] + " ending " + ending + " place " + place + " steps " + steps + " spent " + spent
                + " pile " + pile.toString().replace(",", "");
        }
    }
}
