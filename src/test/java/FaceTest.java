import java.lang.reflect.Constructor;
import java.lang.reflect.Field;
import java.lang.reflect.Method;
import java.lang.reflect.Modifier;
import java.util.TreeSet;

/** The public face, the constants, and promise 1: a new object. */
public final class FaceTest {
    private static final Due due = new Due();
    private static final String EMPTY = "size 0 gas 0 variables 0 0 0 0 ending 0 place 0 steps 0 spent 0 pile []";

    public static void main(String[] args) {
        classIsPublicAndFinal();
        publicMembersAreTheDocumentsAndNoOthers();
        constantsOfRefusals();
        constantsOfEndings();
        newObjectHasNoInstruction();
        newObjectHasNoGasAndItsVariablesAreZero();
        newObjectHasAnEmptyPile();
        newObjectHasNoRun();
        newObjectIsNewBesideAUsedOne();
        due.end();
    }

    private static void classIsPublicAndFinal() {
        due.sentence("public final class GasMeter {");
        int m = GasMeter.class.getModifiers();
        due.is("public final", "" + (Modifier.isPublic(m) && Modifier.isFinal(m)), "true");
        due.is("package", GasMeter.class.getPackageName(), "");
        due.is("nested classes", GasMeter.class.getDeclaredClasses().length, 0);
    }

    private static void publicMembersAreTheDocumentsAndNoOthers() {
        due.sentence("The public face");
        TreeSet<String> seen = new TreeSet<>();
        for (Field f : GasMeter.class.getDeclaredFields()) {
            if (!Modifier.isPrivate(f.getModifiers())) {
                seen.add(f.toString().replace("GasMeter.", ""));
            }
        }
        for (Constructor<?> c : GasMeter.class.getDeclaredConstructors()) {
            if (!Modifier.isPrivate(c.getModifiers())) {
                seen.add(c.toString());
            }
        }
        for (Method m : GasMeter.class.getDeclaredMethods()) {
            if (!Modifier.isPrivate(m.getModifiers())) {
                seen.add(m.toString().replace("GasMeter.", ""));
            }
        }
        TreeSet<String> wanted = new TreeSet<>();
        for (String c : "BAD_ARG FULL NO_RUN HALTED TIRED TRAPPED BROKE".split(" ")) {
            wanted.add("public static final int " + c);
        }
        wanted.add("public GasMeter()");
        wanted.add("public void clear()");
        for (String m : ("append(int,int) change(int,int,int) size() set(int,int) get(int) fund(int) gas() run() "
            + "ending() place() steps() spent() height() pile(int) bill()").split(" ")) {
            wanted.add("public int " + m);
        }
        due.is("members", seen.toString(), wanted.toString());
    }

    private static void constantsOfRefusals() {
        due.sentence("The constants: `BAD_ARG = -1`: An argument is out of its range.");
        due.is("BAD_ARG", GasMeter.BAD_ARG, -1);
        due.sentence("`FULL = -2`: The program has 20 instructions.");
        due.is("FULL", GasMeter.FULL, -2);
    }

    private static void constantsOfEndings() {
        due.sentence("`NO_RUN = 0`, `HALTED = 1`, `TIRED = 2`, `TRAPPED = 3`, `BROKE = 4`: How runs end.");
        due.is("NO_RUN", GasMeter.NO_RUN, 0);
        due.is("HALTED", GasMeter.HALTED, 1);
        due.is("TIRED", GasMeter.TIRED, 2);
        due.is("TRAPPED", GasMeter.TRAPPED, 3);
        due.is("BROKE", GasMeter.BROKE, 4);
    }

    private static void newObjectHasNoInstruction() {
        due.sentence("`GasMeter()`: No instruction;");
        due.is("size", new GasMeter().size(), 0);
        due.is("change(0, halt)", new GasMeter().change(0, Due.HALT, 0), GasMeter.BAD_ARG);
        due.is("first append", new GasMeter().append(Due.HALT, 0), 0);
        due.is("bill", new GasMeter().bill(), 0);
        GasMeter m = new GasMeter();
        due.is("run", Due.runWith(m, 100), "ending 1 place 0 steps 0 spent 0 pile []");
    }

    private static void newObjectHasNoGasAndItsVariablesAreZero() {
        due.sentence("variables and gas are 0;");
        due.is("gas", new GasMeter().gas(), 0);
        due.is("fund(0)", new GasMeter().fund(0), 0);
        for (int v = 0; v < 4; v++) {
            due.is("get(" + v + ")", new GasMeter().get(v), 0);
            due.is("get " + v + " in a run", Due.runWith(Due.with(Due.GET, v), 3),
                "ending 1 place 1 steps 1 spent 3 pile [0]");
        }
    }

    private static void newObjectHasAnEmptyPile() {
        due.sentence("the pile is empty;");
        due.is("height", new GasMeter().height(), 0);
        for (int i = -1; i <= 8; i++) {
            due.is("pile(" + i + ")", new GasMeter().pile(i), 0);
        }
    }

    private static void newObjectHasNoRun() {
        due.sentence("no run yet.");
        due.is("ending", new GasMeter().ending(), GasMeter.NO_RUN);
        due.is("everything", Due.everything(new GasMeter()), EMPTY);
    }

    private static void newObjectIsNewBesideAUsedOne() {
        due.sentence("Promise 1: A new object");
        GasMeter older = new GasMeter();
        GasMeter used = Due.with(Due.PUSH, 7);
        used.set(2, 9);
        used.fund(50);
        used.run();
        due.is("an older object", Due.everything(older), EMPTY);
        due.is("a younger object", Due.everything(new GasMeter()), EMPTY);
        due.is("the used one", Due.everything(used),
            "size 1 gas 48 variables 0 0 9 0 ending 1 place 1 steps 1 spent 2 pile [7]");
    }
}
