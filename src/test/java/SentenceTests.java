import java.io.IOException;
import java.nio.file.DirectoryStream;
import java.nio.file.Files;
import java.nio.file.Path;
import java.util.ArrayList;
import java.util.HashMap;
import java.util.List;
import java.util.Map;
import java.util.TreeMap;
import java.util.regex.Matcher;
import java.util.regex.Pattern;

/** Every sentence of the document that names a boundary case is named by a test of the *Edges classes. */
public final class SentenceTests {
    private static final Check C = new Check();
    private static final Path TESTS = Path.of("src/test/java");
    /** What a sentence says that names a boundary case. */
    private static final Pattern EDGE = Pattern.compile("NONE|-2|-100000|false|Exception|no such|not so many|nothing happens|at most|"
        + "or more|at first|or above|above 0|below|not above|one and the same|already|until|if it is less|rounded|wrap|longest|"
        + "\\d \\.\\. |\\d+st |the first of|itself|no other|none");

    public static void main(String[] args) throws IOException {
        Map<String, List<String>> named = named();
        for (int number = 1; number <= 47; number++) {
            List<String> sentences = named.getOrDefault("" + number, List.of());
            C.due("promise " + number + " has tests", sentences.size() > 0, true);
            left("promise " + number, Check.parts().get("" + number), sentences);
        }
        for (String section : List.of("I", "II", "III", "IV", "V")) {
            left("terms " + section, Check.parts().get(section), named.getOrDefault(section, List.of()));
        }
        if (args.length > 0) {
            System.out.println(new TreeMap<>(named));
        }
        C.finish("SentenceTests");
    }

    /** What the tests name: by part, the sentences. */
    private static Map<String, List<String>> named() throws IOException {
        Pattern call = Pattern.compile("C\\.(?:promise|terms)\\((\\d+|\"\\w*\"),\\s*((?:\"[^\"]*\"[\\s+]*)+)\\)");
        Map<String, List<String>> named = new HashMap<>();
        try (DirectoryStream<Path> files = Files.newDirectoryStream(TESTS, "*Edges.java")) {
            for (Path file : files) {
                Matcher m = call.matcher(Files.readString(file));
                while (m.find()) {
                    String sentence = m.group(2).strip().replaceAll("\"\\s*\\+\\s*\"", "").replace("\"", "");
                    named.computeIfAbsent(m.group(1).replace("\"", ""), k -> new ArrayList<>()).add(sentence);
                }
            }
        }
        return named;
    }

    /** What of a part no test names must not name a boundary case. */
    private static void left(String where, String whole, List<String> sentences) {
        String part = whole.replaceFirst("^## Promise \\d+:[^`]*`[^`]*`:", "");
        StringBuilder mask = new StringBuilder(" ".repeat(part.length()));
        for (String sentence : sentences) {
            for (int at = part.indexOf(sentence); at >= 0; at = part.indexOf(sentence, at + 1)) {
                for (int i = at; i < at + sentence.length(); i++) {
                    mask.setCharAt(i, '#');
                }
            }
        }
        StringBuilder s = new StringBuilder();
        for (int i = 0; i < part.length(); i++) {
            s.append(mask.charAt(i) == '#' ? '#' : part.charAt(i));
        }
        String rest = s.toString().replaceAll("#+", " # ");
        Matcher m = EDGE.matcher(rest);
        C.due(where + ": no boundary case is left in" + rest, m.find(), false);
    }
}
