import java.lang.reflect.Constructor;
import java.lang.reflect.Field;
import java.lang.reflect.Method;
import java.lang.reflect.Modifier;
import java.util.TreeSet;

/** The public face, and promise 1: a new object. */
public final class FaceTest {
    private static final Due due = new Due();

    public static void main(String[] args) {
        classIsPublicAndFinal();
        publicMembersAreTheDocumentsAndNoOthers();
        constantsHaveTheirNumbers();
        newObjectIsEmpty();
        objectsShareNothing();
        due.end();
    }

    private static void classIsPublicAndFinal() {
        int m = GasMeter.class.getModifiers();
        due.is("public final", "" + (Modifier.isPublic(m) && Modifier.isFinal(m)), "true");
        due.is("package", GasMeter.class.getPackageName(), "");
        due.is("nested classes", GasMeter.class.getDeclaredClasses().length, 0);
    }

    private static void publicMembersAreTheDocumentsAndNoOthers() {
        TreeSet<String> seen = new TreeSet<>();
        for (Field f : GasMeter.class.getDeclaredFields()) {
            if (!Modifier.isPrivate(f.getModifiers())) {
                seen.add(f.toString().replace("GasMeter.", ""));
            }
        }
        for (Constructor<?> c : GasMeter.class.getDeclaredConstructors()) {
            if (!Modifier.isPrivate(c.getModifiers())) {
                seen.add(c.toString());
            }
        }
        for (Method m : GasMeter.class.getDeclaredMethods()) {
            if (!Modifier.isPrivate(m.getModifiers())) {
                seen.add(m.toString().replace("GasMeter.", ""));
            }
        }
        TreeSet<String> wanted = new TreeSet<>();
        for (String c : "BAD_ARG FULL NO_RUN HALTED TIRED TRAPPED BROKE".split(" ")) {
            wanted.add("public static final int " + c);
        }
        wanted.add("public GasMeter()");
        wanted.add("public void clear()");
        for (String m : ("append(int,int) change(int,int,int) size() set(int,int) get(int) fund(int) gas() run() "
            + "ending() place() steps() spent() height() pile(int) bill()").split(" ")) {
            wanted.add("public int " + m);
        }
        due.is("members", seen.toString(), wanted.toString());
    }

    private static void constantsHaveTheirNumbers() {
        due.is("BAD_ARG", GasMeter.BAD_ARG, -1);
        due.is("FULL", GasMeter.FULL, -2);
        due.is("NO_RUN", GasMeter.NO_RUN, 0);
        due.is("HALTED", GasMeter.HALTED, 1);
        due.is("TIRED", GasMeter.TIRED, 2);
        due.is("TRAPPED", GasMeter.TRAPPED, 3);
        due.is("BROKE", GasMeter.BROKE, 4);
    }

    private static void newObjectIsEmpty() {
        GasMeter m = new GasMeter();
        due.is("new object", Due.everything(m), "size 0 gas 0 variables 0 0 0 0 ending 0 place 0 steps 0 spent 0 pile []");
        due.is("new object: height", m.height(), 0);
        due.is("new object: pile(0)", m.pile(0), 0);
        due.is("new object: bill", m.bill(), 0);
        due.is("new object: no run by a bill", m.ending(), GasMeter.NO_RUN);
    }

    private static void objectsShareNothing() {
        GasMeter one = Due.with(Due.PUSH, 7);
        GasMeter other = new GasMeter();
        one.set(2, 9);
        one.fund(50);
        one.run();
        due.is("another object", Due.everything(other),
            "size 0 gas 0 variables 0 0 0 0 ending 0 place 0 steps 0 spent 0 pile []");
    }
}
