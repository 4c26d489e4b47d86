import java.io.IOException;
import java.lang.reflect.Constructor;
import java.lang.reflect.Field;
import java.lang.reflect.Method;
import java.lang.reflect.Modifier;
import java.nio.file.Files;
import java.nio.file.Path;
import java.util.Arrays;
import java.util.HashSet;
import java.util.List;
import java.util.Set;
import java.util.TreeSet;
import java.util.regex.Matcher;
import java.util.regex.Pattern;

/** The public face as the document prints it, and rules of LANGUAGE.md that can be looked up. */
public final class FaceTests {
    private static final Check C = new Check();
    private static final Path DOC = Path.of("../shared/DOC.md");
    private static final Path SOURCE = Path.of("src/main/java/ToldNet.java");

    public static void main(String[] args) throws IOException {
        face();
        names();
        source();
        C.finish("FaceTests");
    }

    private static void face() throws IOException {
        Set<String> due = new TreeSet<>();
        Matcher m = Pattern.compile("^    public (\\w+) (\\w+)\\((.*)\\)( throws (.*))?;$", Pattern.MULTILINE)
            .matcher(Files.readString(DOC));
        while (m.find()) {
            String types = m.group(3).replaceAll("(\\w+) \\w+", "$1").replace(", ", ",");
            due.add(m.group(1) + " " + m.group(2) + "(" + types + ")" + (m.group(5) == null ? "" : " " + m.group(5)));
        }
        Set<String> got = new TreeSet<>();
        for (Method method : ToldNet.class.getDeclaredMethods()) {
            int mod = method.getModifiers();
            if (!Modifier.isPrivate(mod) && !method.isSynthetic()) {
                StringBuilder s = new StringBuilder(method.getReturnType() + " " + method.getName() + "(");
                s.append(String.join(",", Arrays.stream(method.getParameterTypes()).map(Class::getName).toList())).append(')');
                List<String> thrown = Arrays.stream(method.getExceptionTypes()).map(Class::getSimpleName).toList();
                got.add(s + (thrown.isEmpty() ? "" : " " + String.join(", ", thrown)));
                C.due("public " + method, mod, Modifier.PUBLIC);
            }
        }
        C.due("methods of the document", due.size(), 46);
        C.due("the document's methods: " + due + ", ours: " + got, due.equals(got), true);
        for (Field field : ToldNet.class.getDeclaredFields()) {
            boolean none = field.getName().equals("NONE");
            C.due("field " + field, Modifier.isPrivate(field.getModifiers()), !none);
        }
        C.due("NONE", ToldNet.NONE, -1);
        Constructor<?>[] made = ToldNet.class.getDeclaredConstructors();
        C.due("constructors", made.length, 1);
        C.due("constructor", made[0].getModifiers(), Modifier.PUBLIC);
        C.due("class", ToldNet.class.getModifiers(), Modifier.PUBLIC | Modifier.FINAL);
    }

    private static void names() {
        Set<String> face = new HashSet<>();
        for (Method method : ToldNet.class.getMethods()) {
            face.add(method.getName());
        }
        Class<?>[] inside = ToldNet.class.getDeclaredClasses();
        C.due("some twelve classes", inside.length < 13, true);
        for (Class<?> c : inside) {
            C.due("static " + c, Modifier.isStatic(c.getModifiers()), true);
            int fields = 0;
            for (Field field : c.getDeclaredFields()) {
                fields += Modifier.isStatic(field.getModifiers()) ? 0 : 1;
            }
            C.due("fields of " + c, fields <= 20, true);
            for (Method method : c.getDeclaredMethods()) {
                C.due("a name of the face: " + method, face.contains(method.getName()), false);
                C.due("parameters: " + method, method.getParameterCount() <= 7, true);
            }
        }
    }

    private static void source() throws IOException {
        String source = Files.readString(SOURCE);
        String code = source.replaceAll("(?s)/\\*.*?\\*/", "").replaceAll("//.*", "").replaceAll("\"[^\"]*\"", "\"\"");
        String[] never = {"->", "::", "\\bcatch\\b", "\\btry\\b", "\\bfinally\\b", "\\bsynchronized\\b", "\\bassert\\b",
            "\\binstanceof\\b", "Exact\\(", "\\bMath\\.random", "\\bSystem\\.(?!arraycopy)", "\\bvar\\b", "\\bdouble\\b",
            "while \\(true\\)", "for \\(;;", "\\+ \"", "\" \\+"};
        for (String bad : never) {
            Matcher m = Pattern.compile(bad).matcher(code);
            C.due("in the source: " + bad, m.find(), false);
        }
        Matcher imports = Pattern.compile("^import (.*);$", Pattern.MULTILINE).matcher(code);
        while (imports.find()) {
            C.due("import " + imports.group(1), Set.of("java.util.Arrays", "java.util.NoSuchElementException")
                .contains(imports.group(1)), true);
        }
        for (char c : source.toCharArray()) {
            if (c > 126 || c < 32 && c != '\n') {
                C.due("a sign of the source", c, ' ');
            }
        }
        methodLengths(code);
    }

    private static void methodLengths(String code) {
        String[] lines = code.split("\n");
        int start = -1;
        for (int i = 0; i < lines.length; i++) {
            if (lines[i].matches("^(    |        )[\\w].*\\) *(throws .*)?\\{$") && !lines[i].contains(" class ")) {
                start = i;
            }
            if (start >= 0 && lines[i].matches("^ *}$") && indent(lines[i]) == indent(lines[start])) {
                C.due("lines of" + lines[start], i - start <= 60, true);
                start = -1;
            }
        }
    }

    private static int indent(String line) {
        return line.length() - line.stripLeading().length();
    }
}
