import java.util.Arrays;

/** Promises 10 to 16 and 18: runs as wholes, in which order they end, and what is answered of the last one. */
public final class RunTest {
    private static final Due due = new Due();
    private static final int MIN = Integer.MIN_VALUE;
    private static final int MAX = Integer.MAX_VALUE;

    public static void main(String[] args) {
        runBeginsAnew();
        runFindsVariablesAndGasAsTheyWereLeft();
        haltedWhereThereIsNoInstruction();
        tiredAfterThreeHundred();
        haltedBeforeTired();
        tiredBeforeTrapped();
        tiredBeforeBroke();
        tiredBeforeHalt();
        trappedBeforeBroke();
        trappedTakesNothing();
        brokeTakesNothing();
        haltIsWorkedOff();
        runAnswersHowItEnded();
        endingTellsTheLastRun();
        placeOfEachEnding();
        placeOfAHalt();
        placeWithoutRun();
        stepsOfEachEnding();
        spentOfEachEnding();
        stepsAndSpentWithoutRun();
        heightAfterARun();
        pileAfterARun();
        pileWhereThereIsNone();
        lastRunIsKeptUntilTheNext();
        due.end();
    }

    private static void runBeginsAnew() {
        due.sentence("A RUN begins at instruction 0 with an empty pile;");
        // Each first run ends elsewhere than at 0 and with numbers on the pile; the second must not go on from there.
        int[][] firsts = {{Due.HALT, 0}, {Due.ADD, 0}, {Due.SPIN, 0}, {Due.JUMP, 20}, {Due.JUMP, 1}};
        int[] prices = {0, 0, 8, 4, 4 * 299};
        String[] endings = {"ending 1 place 1 steps 2", "ending 3 place 1 steps 1", "ending 1 place 2 steps 2",
            "ending 1 place 20 steps 2", "ending 2 place 1 steps 300"};
        for (int i = 0; i < firsts.length; i++) {
            GasMeter m = Due.with(Due.PUSH, 7, firsts[i][0], firsts[i][1]);
            String want = endings[i] + " spent " + (2 + prices[i]) + " pile " + (firsts[i][0] == Due.SPIN ? "[]" : "[7]");
            due.is("first run", Due.runWith(m, 2 + prices[i]), want);
            due.is("second run", Due.runWith(m, 2 + prices[i]), want);
        }
        GasMeter eight = Due.withPileOf(8);
        due.is("eight numbers", Due.runWith(eight, 16), "ending 1 place 8 steps 8 spent 16 pile [1 2 3 4 5 6 7 8]");
        due.is("eight anew", Due.runWith(eight, 16), "ending 1 place 8 steps 8 spent 16 pile [1 2 3 4 5 6 7 8]");
        GasMeter broke = Due.with(Due.PUSH, 7, Due.DUP, 0);
        due.is("broke", Due.runWith(broke, 3), "ending 4 place 1 steps 1 spent 2 pile [7]");
        due.is("broke no more", Due.runWith(broke, 3), "ending 1 place 2 steps 2 spent 4 pile [7 7]");
    }

    private static void runFindsVariablesAndGasAsTheyWereLeft() {
        due.sentence("variables are as they were left, and so is the gas.");
        GasMeter m = Due.with(Due.GET, 2, Due.PUSH, 3, Due.ADD, 0, Due.DUP, 0, Due.SET, 2);
        m.set(2, 100);
        m.fund(40);
        m.run();
        due.is("first run", Due.everything(m),
            "size 5 gas 26 variables 0 0 103 0 ending 1 place 5 steps 5 spent 14 pile [103]");
        m.run();
        due.is("second run", Due.everything(m),
            "size 5 gas 12 variables 0 0 106 0 ending 1 place 5 steps 5 spent 14 pile [106]");
        m.run();
        due.is("third run", Due.everything(m),
            "size 5 gas 2 variables 0 0 106 0 ending 4 place 4 steps 4 spent 10 pile [109 109]");
        m.set(2, -5);
        m.fund(12);
        m.run();
        due.is("fourth run", Due.everything(m),
            "size 5 gas 0 variables 0 0 -2 0 ending 1 place 5 steps 5 spent 14 pile [-2]");
    }

    private static void haltedWhereThereIsNoInstruction() {
        due.sentence("if there is none of this number, the run ends HALTED;");
        due.is("no program", Due.runWith(new GasMeter(), 0), "ending 1 place 0 steps 0 spent 0 pile []");
        for (int size = 1; size <= 20; size++) {
            GasMeter through = new GasMeter();
            for (int i = 0; i < size; i++) {
                Due.load(through, i % 2 == 0 ? Due.PUSH : Due.DROP, 0);
            }
            int spent = size / 2 * 3 + size % 2 * 2;
            due.is("through " + size, Due.runWith(through, spent), "ending 1 place " + size + " steps " + size
                + " spent " + spent + " pile " + (size % 2 == 1 ? "[0]" : "[]"));
            for (int k = size; k <= 20; k++) {
                GasMeter m = Due.withHalts(size);
                m.change(0, Due.JUMP, k);
                due.is("jump " + k + " of " + size, Due.runWith(m, 4), "ending 1 place " + k + " steps 1 spent 4 pile []");
            }
            if (size > 1) {
                GasMeter m = Due.withHalts(size);
                m.change(0, Due.JUMP, size - 1);
                m.change(size - 1, Due.ADD, 0);
                due.is("jump to the last of " + size, Due.runWith(m, 4),
                    "ending 3 place " + (size - 1) + " steps 1 spent 4 pile []");
            }
        }
        GasMeter gone = Due.with(Due.JUMP, 1, Due.PUSH, 5);
        gone.clear();
        Due.load(gone, Due.JUMP, 1);
        due.is("jump to a cleared one", Due.runWith(gone, 4), "ending 1 place 1 steps 1 spent 4 pile []");
    }

    /** Six steps and 19 gas a round, for as many rounds as told; then comes instruction 6, on an empty pile. */
    private static GasMeter rounds(int n) {
        GasMeter m = Due.with(Due.GET, 0, Due.PUSH, 1, Due.SUB, 0, Due.DUP, 0, Due.SET, 0, Due.BRANCH, 0);
        m.set(0, n);
        return m;
    }

    /** Exactly 288 to 302 steps, which leave the pile empty or with a 9 on it; the last is instruction size() - 1. */
    private static GasMeter workOff(int steps) {
        GasMeter m = rounds(48);
        for (int i = 288; i < steps; i++) {
            Due.load(m, i % 2 == 0 ? Due.PUSH : Due.DROP, 9);
        }
        return m;
    }

    private static int priceOf(int steps) {
        return 48 * 19 + (steps - 288) / 2 * 3 + steps % 2 * 2;
    }

    private static void tiredAfterThreeHundred() {
        due.sentence("if 300 instructions were worked off, it ends TIRED;");
        for (int steps = 288; steps <= 302; steps++) {
            int done = steps < 300 ? steps : 300;
            due.is(steps + " steps", Due.runWith(workOff(steps), 2000), "ending " + (steps <= 300 ? 1 : 2)
                + " place " + (done - 288 + 6) + " steps " + done + " spent " + priceOf(done)
                + " pile " + (done % 2 == 1 ? "[9]" : "[]"));
        }
        GasMeter ring = Due.with(Due.JUMP, 0);
        due.is("a ring", Due.runWith(ring, 2000), "ending 2 place 0 steps 300 spent 1200 pile []");
        due.is("a ring once more", Due.runWith(ring, 2000), "ending 2 place 0 steps 300 spent 1200 pile []");
    }

    private static void haltedBeforeTired() {
        due.sentence("if there is none of this number, the run ends HALTED; if 300 instructions were worked off, "
            + "it ends TIRED;");
        due.is("off the end after 300", Due.runWith(rounds(50), 950), "ending 1 place 6 steps 300 spent 950 pile []");
        GasMeter more = rounds(51);
        due.is("not off the end after 300", Due.runWith(more, 969), "ending 2 place 0 steps 300 spent 950 pile []");
        due.is("variable after 50 of 51 rounds", more.get(0), 1);
        GasMeter far = workOff(299);
        Due.load(far, Due.JUMP, 20);
        due.is("to 20 by the 300th", Due.runWith(far, 2000),
            "ending 1 place 20 steps 300 spent " + (priceOf(299) + 4) + " pile [9]");
        GasMeter back = workOff(299);
        Due.load(back, Due.JUMP, 0);
        due.is("to 0 by the 300th", Due.runWith(back, 2000),
            "ending 2 place 0 steps 300 spent " + (priceOf(299) + 4) + " pile [9]");
    }

    private static void tiredBeforeTrapped() {
        due.sentence("if 300 instructions were worked off, it ends TIRED; if the instruction needs more numbers than the "
            + "pile has, or would put a ninth on it, it ends TRAPPED;");
        for (int op : new int[] {Due.ADD, Due.SUB, Due.MUL, Due.LESS, Due.SWAP}) {
            for (int steps = 298; steps <= 300; steps++) {
                GasMeter m = workOff(steps);
                Due.load(m, op, 0);
                due.is("op " + op + " without numbers after " + steps, Due.runWith(m, priceOf(steps)),
                    "ending " + (steps < 300 ? 3 : 2) + " place " + (steps - 282) + " steps " + steps + " spent "
                    + priceOf(steps) + " pile " + (steps == 299 ? "[9]" : "[]"));
            }
        }
        for (int op : new int[] {Due.PUSH, Due.DUP, Due.GET, Due.GAS}) {
            for (int before = 3; before <= 4; before++) {
                GasMeter m = rounds(48);
                Due.load(m, Due.JUMP, 7, Due.JUMP, 8, Due.JUMP, 9);
                if (before == 4) {
                    Due.load(m, Due.JUMP, 10);
                }
                for (int i = 1; i <= 8; i++) {
                    Due.load(m, Due.PUSH, i);
                }
                Due.load(m, op, 0);
                int steps = 296 + before;
                due.is("op " + op + " on eight after " + steps, Due.runWith(m, 2000), "ending " + (steps < 300 ? 3 : 2)
                    + " place " + (14 + before) + " steps " + steps + " spent " + (928 + 4 * before)
                    + " pile [1 2 3 4 5 6 7 8]");
            }
        }
    }

    private static void tiredBeforeBroke() {
        due.sentence("Again and again, for the instruction at which it is to go on:");
        for (int op : new int[] {Due.PUSH, Due.GET, Due.JUMP, Due.GAS}) {
            for (int steps = 299; steps <= 300; steps++) {
                GasMeter m = workOff(steps);
                Due.load(m, op, 0);
                due.is("op " + op + " without gas after " + steps, Due.runWith(m, priceOf(steps)),
                    "ending " + (steps < 300 ? 4 : 2) + " place " + (steps - 282) + " steps " + steps + " spent "
                    + priceOf(steps) + " pile " + (steps == 299 ? "[9]" : "[]"));
            }
        }
        due.is("a ring with gas for 299", Due.runWith(Due.with(Due.JUMP, 0), 1199),
            "ending 4 place 0 steps 299 spent 1196 pile []");
        due.is("a ring with gas for 300", Due.runWith(Due.with(Due.JUMP, 0), 1200),
            "ending 2 place 0 steps 300 spent 1200 pile []");
    }

    private static void tiredBeforeHalt() {
        due.sentence("if 300 instructions were worked off, it ends TIRED;");
        for (int steps = 298; steps <= 301; steps++) {
            GasMeter m = workOff(steps);
            Due.load(m, Due.HALT, 0);
            int done = steps < 300 ? steps + 1 : 300;
            int paid = steps < 300 ? steps : 300;
            due.is("halt after " + steps, Due.runWith(m, 2000), "ending " + (steps < 300 ? 1 : 2) + " place "
                + (paid - 282) + " steps " + done + " spent " + priceOf(paid) + " pile "
                + (paid % 2 == 1 ? "[9]" : "[]"));
        }
    }

    private static void trappedBeforeBroke() {
        due.sentence("it ends TRAPPED; if its price is more than the gas, it ends BROKE;");
        int[] needs = {0, 2, 2, 2, 2, 1, 2, 1, 0, 1, 0, 1, 1, 0, 0};
        for (int op = 0; op < 15; op++) {
            if (needs[op] > 0) {
                GasMeter m = Due.withPileOf(needs[op] - 1);
                Due.load(m, op, 0);
                int had = needs[op] - 1;
                due.is("op " + op + " with neither numbers nor gas", Due.runWith(m, 2 * had), "ending 3 place " + had
                    + " steps " + had + " spent " + 2 * had + " pile " + (had == 0 ? "[]" : "[1]"));
                GasMeter enough = Due.withPileOf(needs[op]);
                Due.load(enough, op, 0);
                Due.runWith(enough, 2 * needs[op]);
                due.is("op " + op + " with numbers and no gas", enough.ending(), GasMeter.BROKE);
            }
        }
        for (int op : new int[] {Due.PUSH, Due.DUP, Due.GET, Due.GAS}) {
            for (int height = 7; height <= 8; height++) {
                GasMeter m = Due.withPileOf(height);
                Due.load(m, op, 0);
                Due.runWith(m, 2 * height);
                due.is("op " + op + " on " + height + " without gas", m.ending(),
                    height == 8 ? GasMeter.TRAPPED : GasMeter.BROKE);
            }
        }
    }

    private static void trappedTakesNothing() {
        due.sentence("An instruction at which a run ends TRAPPED");
        int[] taking = {Due.ADD, Due.SUB, Due.MUL, Due.LESS, Due.SWAP};
        for (int op : taking) {
            GasMeter m = Due.with(Due.PUSH, 6, Due.SET, 1, Due.PUSH, 5, op, 0);
            m.fund(50);
            m.run();
            due.is("op " + op + " on one", Due.everything(m),
                "size 4 gas 42 variables 0 6 0 0 ending 3 place 3 steps 3 spent 8 pile [5]");
        }
        for (int op : new int[] {Due.DUP, Due.DROP, Due.SET, Due.BRANCH, Due.SPIN}) {
            GasMeter m = Due.with(Due.PUSH, 6, Due.SET, 1, op, 1);
            m.fund(50);
            m.run();
            due.is("op " + op + " on none", Due.everything(m),
                "size 3 gas 44 variables 0 6 0 0 ending 3 place 2 steps 2 spent 6 pile []");
        }
        for (int op : new int[] {Due.PUSH, Due.DUP, Due.GET, Due.GAS}) {
            GasMeter m = Due.withPileOf(8);
            Due.load(m, op, 0);
            m.fund(50);
            m.run();
            due.is("op " + op + " on eight", Due.everything(m),
                "size 9 gas 34 variables 0 0 0 0 ending 3 place 8 steps 8 spent 16 pile [1 2 3 4 5 6 7 8]");
        }
    }

    private static void brokeTakesNothing() {
        due.sentence("An instruction at which a run ends TRAPPED or BROKE is not worked off, and takes nothing;");
        // Each is one gas short; of a spin on 9 the price is 10.
        int[] prices = {2, 3, 3, 5, 3, 2, 2, 1, 3, 4, 4, 5, 10, 2};
        for (int op = 0; op < 14; op++) {
            GasMeter m = Due.with(Due.PUSH, 8, Due.SET, 1, Due.PUSH, 5, Due.PUSH, 9, op, 0);
            m.fund(10 + prices[op] - 1);
            m.run();
            due.is("op " + op, Due.everything(m), "size 5 gas " + (prices[op] - 1)
                + " variables 0 8 0 0 ending 4 place 4 steps 4 spent 10 pile [5 9]");
        }
        GasMeter twice = Due.with(Due.PUSH, 8, Due.SET, 1);
        twice.fund(5);
        twice.run();
        due.is("broke", Due.everything(twice), "size 2 gas 3 variables 0 0 0 0 ending 4 place 1 steps 1 spent 2 pile [8]");
        twice.run();
        due.is("broke again", Due.everything(twice),
            "size 2 gas 1 variables 0 0 0 0 ending 4 place 1 steps 1 spent 2 pile [8]");
        twice.run();
        due.is("broke at once", Due.everything(twice),
            "size 2 gas 1 variables 0 0 0 0 ending 4 place 0 steps 0 spent 0 pile []");
    }

    private static void haltIsWorkedOff() {
        due.sentence("halt is worked off.");
        due.is("halt alone", Due.runWith(Due.with(Due.HALT, 0), 0), "ending 1 place 0 steps 1 spent 0 pile []");
        due.is("halt after two", Due.runWith(Due.with(Due.PUSH, 1, Due.PUSH, 2, Due.HALT, 0, Due.PUSH, 3), 50),
            "ending 1 place 2 steps 3 spent 4 pile [1 2]");
        due.is("no halt", Due.runWith(Due.with(Due.PUSH, 1, Due.PUSH, 2), 50),
            "ending 1 place 2 steps 2 spent 4 pile [1 2]");
    }

    /** An object whose next run ends as told. */
    private static GasMeter toEnd(int ending) {
        GasMeter m = new GasMeter();
        if (ending == GasMeter.HALTED) {
            Due.load(m, Due.PUSH, 4, Due.HALT, 0, Due.PUSH, 5);
        } else if (ending == GasMeter.TIRED) {
            Due.load(m, Due.PUSH, 4, Due.JUMP, 2, Due.JUMP, 1);
        } else if (ending == GasMeter.TRAPPED) {
            Due.load(m, Due.PUSH, 4, Due.PUSH, 5, Due.ADD, 0, Due.SUB, 0);
        } else {
            Due.load(m, Due.PUSH, 4, Due.PUSH, 5, Due.PUSH, 15, Due.SPIN, 0);
        }
        Due.fund(m, ending == GasMeter.TIRED ? 1300 : 20);
        return m;
    }

    private static void runAnswersHowItEnded() {
        due.sentence("A run. Answers how it ended.");
        for (int e = GasMeter.HALTED; e <= GasMeter.BROKE; e++) {
            due.is("run to " + e, toEnd(e).run(), e);
        }
        due.is("run of nothing", new GasMeter().run(), GasMeter.HALTED);
    }

    private static void endingTellsTheLastRun() {
        due.sentence("How the last run ended, or NO_RUN.");
        for (int e = GasMeter.HALTED; e <= GasMeter.BROKE; e++) {
            GasMeter m = toEnd(e);
            due.is("ending before a run to " + e, m.ending(), GasMeter.NO_RUN);
            m.bill();
            due.is("ending after a bill", m.ending(), GasMeter.NO_RUN);
            m.run();
            due.is("ending after a run to " + e, m.ending(), e);
            m.clear();
            due.is("ending after clear", m.ending(), e);
            m.run();
            due.is("ending after another run", m.ending(), GasMeter.HALTED);
        }
        GasMeter m = Due.with(Due.JUMP, 0);
        int[] seen = {m.run(), m.ending(), m.fund(2000), m.run(), m.ending(), m.change(0, Due.DROP, 0), m.run(), m.ending()};
        due.is("BROKE, TIRED, TRAPPED", Arrays.toString(seen), "[4, 4, 2000, 2, 2, 10, 3, 3]");
    }

    private static void placeOfEachEnding() {
        due.sentence("The number of the instruction at which the last run was to go on when it ended");
        int[] places = {0, 1, 2, 3, 3};
        for (int e = GasMeter.HALTED; e <= GasMeter.BROKE; e++) {
            GasMeter m = toEnd(e);
            m.run();
            due.is("place of " + e, m.place(), places[e]);
            m.clear();
            due.is("place of " + e + " after clear", m.place(), places[e]);
            m.run();
            due.is("place after a run of nothing", m.place(), 0);
        }
        GasMeter off = Due.with(Due.PUSH, 1, Due.JUMP, 20);
        Due.runWith(off, 6);
        due.is("place 20", off.place(), 20);
        GasMeter first = Due.with(Due.ADD, 0);
        first.run();
        due.is("place 0", first.place(), 0);
    }

    private static void placeOfAHalt() {
        due.sentence("(for a halt: its number);");
        for (int i = 0; i < 20; i++) {
            GasMeter m = new GasMeter();
            for (int j = 0; j < 20; j++) {
                Due.load(m, j == i ? Due.HALT : j % 2 == 0 ? Due.PUSH : Due.DROP, 1);
            }
            m.fund(100);
            m.run();
            due.is("halt as instruction " + i, m.place(), i);
        }
    }

    private static void placeWithoutRun() {
        due.sentence("0 if there was no run.");
        GasMeter m = toEnd(GasMeter.BROKE);
        m.bill();
        m.change(99, 0, 0);
        due.is("place before a run", m.place(), 0);
        m.run();
        due.is("place after it", m.place(), 3);
    }

    private static void stepsOfEachEnding() {
        due.sentence("How many instructions the last run worked off.");
        int[] steps = {0, 2, 300, 3, 3};
        for (int e = GasMeter.HALTED; e <= GasMeter.BROKE; e++) {
            GasMeter m = toEnd(e);
            m.run();
            due.is("steps of " + e, m.steps(), steps[e]);
            m.clear();
            due.is("steps of " + e + " after clear", m.steps(), steps[e]);
            m.run();
            due.is("steps of a run of nothing", m.steps(), 0);
        }
    }

    private static void spentOfEachEnding() {
        due.sentence("How much gas the last run took.");
        int[] spent = {0, 2, 1198, 7, 6};
        for (int e = GasMeter.HALTED; e <= GasMeter.BROKE; e++) {
            GasMeter m = toEnd(e);
            int had = m.gas();
            m.run();
            due.is("spent of " + e, m.spent(), spent[e]);
            due.is("gas after " + e, m.gas(), had - spent[e]);
            m.fund(9);
            m.clear();
            due.is("spent of " + e + " after fund and clear", m.spent(), spent[e]);
            m.run();
            due.is("spent of a run of nothing", m.spent(), 0);
        }
        // The last run's gas alone, not that of all runs.
        GasMeter m = Due.with(Due.PUSH, 1);
        m.fund(1999);
        m.run();
        m.run();
        due.is("spent of the second run", m.spent(), 2);
    }

    private static void stepsAndSpentWithoutRun() {
        due.sentence("steps and spent: 0 if there was no run.");
        due.is("steps of a new object", new GasMeter().steps(), 0);
        due.is("spent of a new object", new GasMeter().spent(), 0);
        for (int e = GasMeter.HALTED; e <= GasMeter.BROKE; e++) {
            GasMeter m = toEnd(e);
            m.bill();
            m.fund(2001);
            m.set(4, 4);
            m.append(15, 15);
            due.is("steps before a run to " + e, m.steps(), 0);
            due.is("spent before a run to " + e, m.spent(), 0);
            m.run();
            due.is("steps after it", "" + (m.steps() > 0), "true");
            due.is("spent after it", "" + (m.spent() > 0), "true");
        }
    }

    private static void heightAfterARun() {
        due.sentence("The number of numbers on the pile after the last run.");
        for (int n = 0; n <= 8; n++) {
            GasMeter m = Due.withPileOf(n);
            due.is("height before a run", m.height(), 0);
            m.fund(100);
            m.run();
            due.is("height after " + n, m.height(), n);
            m.clear();
            due.is("height after clear", m.height(), n);
            m.run();
            due.is("height after a run of nothing", m.height(), 0);
        }
        int[] heights = {0, 1, 1, 1, 3};
        for (int e = GasMeter.HALTED; e <= GasMeter.BROKE; e++) {
            GasMeter m = toEnd(e);
            m.run();
            due.is("height after " + e, m.height(), heights[e]);
        }
    }

    private static void pileAfterARun() {
        due.sentence("Number i of the pile (0 is the lowest) after the last run;");
        GasMeter m = Due.withPileOf(8);
        m.fund(100);
        m.run();
        for (int i = 0; i < 8; i++) {
            due.is("pile(" + i + ")", m.pile(i), i + 1);
        }
        m.clear();
        due.is("pile after clear", Due.pileOf(m), "[1 2 3 4 5 6 7 8]");
        Due.load(m, Due.PUSH, 50, Due.PUSH, 60);
        m.bill();
        due.is("pile after a bill", Due.pileOf(m), "[1 2 3 4 5 6 7 8]");
        m.run();
        due.is("pile(0) of another run", m.pile(0), 50);
        due.is("pile(1) of another run", m.pile(1), 60);
    }

    private static void pileWhereThereIsNone() {
        due.sentence("0 if there is none.");
        for (int n = 0; n <= 8; n++) {
            GasMeter m = Due.withPileOf(8);
            m.fund(100);
            for (int i = 0; i < 9; i++) {
                due.is("pile(" + i + ") before a run", m.pile(i), 0);
            }
            // The first run leaves eight numbers, of which the second must leave none above its own.
            m.run();
            for (int i : new int[] {MIN, -8, -1, 8, 9, 256, MAX}) {
                due.is("pile(" + i + ") of 8", m.pile(i), 0);
            }
            if (n < 8) {
                m.change(n, Due.HALT, 0);
            }
            m.run();
            for (int i = -1; i <= 8; i++) {
                due.is("pile(" + i + ") of " + n, m.pile(i), i >= 0 && i < n ? i + 1 : 0);
            }
        }
        GasMeter dropped = Due.with(Due.PUSH, 5, Due.PUSH, 6, Due.DROP, 0);
        Due.runWith(dropped, 5);
        due.is("pile(0) below a dropped one", dropped.pile(0), 5);
        due.is("pile(1), dropped", dropped.pile(1), 0);
    }

    private static void lastRunIsKeptUntilTheNext() {
        due.sentence("the last run");
        GasMeter m = Due.with(Due.PUSH, 11, Due.PUSH, 12, Due.DUP, 0, Due.SUB, 0, Due.SUB, 0, Due.SUB, 0);
        m.fund(30);
        m.run();
        String last = "ending 3 place 5 steps 5 spent 12 pile [11]";
        due.is("after the run", Due.lastRun(m), last);
        m.append(Due.HALT, 0);
        m.append(15, 0);
        m.change(0, Due.PUSH, 50);
        m.change(99, 0, 0);
        m.set(0, 1);
        m.set(4, 1);
        m.fund(7);
        m.fund(-1);
        m.bill();
        due.is("after other calls", Due.lastRun(m), last);
        m.clear();
        due.is("after clear", Due.lastRun(m), last);
        m.bill();
        due.is("after a bill for nothing", Due.lastRun(m), last);
        m.run();
        due.is("after the next", Due.lastRun(m), "ending 1 place 0 steps 0 spent 0 pile []");
    }
}
