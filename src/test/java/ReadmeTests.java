import java.io.IOException;
import java.lang.reflect.InvocationTargetException;
import java.lang.reflect.Method;
import java.lang.reflect.Modifier;
import java.nio.file.Files;
import java.nio.file.Path;
import java.util.HashMap;
import java.util.HashSet;
import java.util.Map;
import java.util.Set;
import java.util.TreeSet;
import java.util.regex.Matcher;
import java.util.regex.Pattern;

/** The calls that README.md shows have the answers that it tells, and no method of the face is left without one. */
public final class ReadmeTests {
    private static final Check C = new Check();
    private static final Path README = Path.of("README.md");
    private static final Pattern MADE = Pattern.compile("ToldNet x = new ToldNet\\(\\);.*");
    private static final Pattern CALL =
        Pattern.compile("(?:int (\\w+) = )?x\\.(\\w+)\\(([^)]*)\\);\\s*// (-?\\d+|true|false|throws \\w+)\\b.*");
    private static final Map<String, Method> FACE = new HashMap<>();

    public static void main(String[] args) throws IOException {
        for (Method method : ToldNet.class.getDeclaredMethods()) {
            if (Modifier.isPublic(method.getModifiers())) {
                FACE.put(method.getName(), method);
            }
        }
        Set<String> shown = new HashSet<>();
        Matcher blocks = Pattern.compile("```java\n(.*?)```", Pattern.DOTALL).matcher(Files.readString(README));
        while (blocks.find()) {
            run(blocks.group(1).split("\n"), shown);
        }
        Set<String> left = new TreeSet<>(FACE.keySet());
        left.removeAll(shown);
        C.due("methods that README.md does not call: " + left, left.size(), 0);
        tests();
        C.finish("ReadmeTests");
    }

    /** Makes the calls of one block on one object. */
    private static void run(String[] lines, Set<String> shown) {
        ToldNet x = null;
        int calls = 0;
        Map<String, Integer> named = new HashMap<>();
        for (String line : lines) {
            Matcher call = CALL.matcher(line);
            if (MADE.matcher(line).matches()) {
                x = new ToldNet();
            } else if (call.matches() && x != null && FACE.containsKey(call.group(2))) {
                calls++;
                shown.add(call.group(2));
                String got = answer(x, FACE.get(call.group(2)), call.group(3), named);
                C.due(line, got, call.group(4));
                if (call.group(1) != null) {
                    named.put(call.group(1), Integer.parseInt(got));
                }
            } else {
                C.due("a line that is no call with its answer: " + line, line.isBlank(), true);
            }
        }
        C.due("calls in a block", calls > 0 && calls <= 512, true);
    }

    private static String answer(ToldNet x, Method method, String text, Map<String, Integer> named) {
        String[] told = text.isBlank() ? new String[0] : text.split(", ");
        C.due("arguments of " + method.getName(), told.length, method.getParameterCount());
        Object[] args = new Object[told.length];
        for (int i = 0; i < told.length; i++) {
            boolean is = method.getParameterTypes()[i] == boolean.class;
            args[i] = is ? (Object) told[i].equals("true") : (Object) number(told[i], named);
        }
        try {
            return "" + method.invoke(x, args);
        } catch (InvocationTargetException e) {
            return "throws " + e.getCause().getClass().getSimpleName();
        } catch (IllegalAccessException e) {
            return "no call";
        }
    }

    private static int number(String told, Map<String, Integer> named) {
        return named.containsKey(told) ? named.get(told) : Integer.decode(told);
    }

    /** Each class of tests is named in README.md. */
    private static void tests() throws IOException {
        String readme = Files.readString(README);
        try (var files = Files.newDirectoryStream(Path.of("src/test/java"), "*.java")) {
            for (Path file : files) {
                String name = file.getFileName().toString().replace(".java", "");
                C.due(name + " is in README.md", readme.contains("`" + name + "`"), true);
            }
        }
        C.due("how the tests are run", readme.contains("bash .ci/run"), true);
    }
}
