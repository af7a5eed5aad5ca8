import java.io.BufferedReader;
import java.io.IOException;
import java.io.InputStreamReader;
import java.lang.reflect.Method;
import java.lang.reflect.Modifier;
import java.nio.charset.StandardCharsets;
import java.util.Map;
import java.util.TreeMap;
import java.util.TreeSet;
import java.util.regex.Matcher;
import java.util.regex.Pattern;

/** README.md, which comes in on standard input: each call of its examples answers what stands behind it. */
public final class ReadmeTest {
    private static final Due due = new Due();
    private static final String NEW_OBJECT = "GasMeter m = new GasMeter();";
    private static final Pattern CALL = Pattern.compile("m\\.(\\w+)\\(([-0-9, ]*)\\);(?: +// (-?\\w+)(?:: .*)?)?");

    private static final Map<String, Method> face = new TreeMap<>();
    private static final TreeSet<String> called = new TreeSet<>();
    private static GasMeter m = new GasMeter();

    public static void main(String[] args) throws IOException, ReflectiveOperationException {
        for (Method method : GasMeter.class.getDeclaredMethods()) {
            if (Modifier.isPublic(method.getModifiers())) {
                face.put(method.getName(), method);
            }
        }
        readExamples(new BufferedReader(new InputStreamReader(System.in, StandardCharsets.UTF_8)));
        due.is("calls in the examples", called.toString(), face.keySet().toString());
        due.end();
    }

    private static void readExamples(BufferedReader readme) throws IOException, ReflectiveOperationException {
        boolean inExample = false;
        int number = 0;
        for (String line = readme.readLine(); line != null; line = readme.readLine()) {
            number++;
            if (line.startsWith("```")) {
                inExample = line.equals("```java");
            } else if (inExample) {
                readLine("README.md, line " + number + ": " + line, line);
            }
        }
    }

    private static void readLine(String what, String line) throws ReflectiveOperationException {
        Matcher call = CALL.matcher(line);
        if (line.equals(NEW_OBJECT)) {
            m = new GasMeter();
        } else if (call.matches() && face.containsKey(call.group(1))) {
            called.add(call.group(1));
            due.is(what, answer(face.get(call.group(1)), call.group(2)), value(call.group(3)));
        } else {
            // Else a line that this test can't read would pass for a right one.
            due.is(what, "nothing", "an answer");
        }
    }

    private static String answer(Method method, String list) throws ReflectiveOperationException {
        String[] words = list.isEmpty() ? new String[0] : list.split(", ");
        Object[] numbers = new Object[words.length];
        for (int i = 0; i < words.length; i++) {
            numbers[i] = Integer.valueOf(words[i]);
        }
        return "" + method.invoke(m, numbers);
    }

    /** A number, the value of a constant, or, where no answer is told, what a void method gives. */
    private static String value(String told) throws ReflectiveOperationException {
        return told == null || told.matches("-?[0-9]+") ? "" + told : "" + GasMeter.class.getField(told).getInt(null);
    }
}
