import java.io.IOException;
import java.nio.file.Files;
import java.nio.file.Path;
import java.util.HashMap;
import java.util.Map;
import java.util.NoSuchElementException;

/** What the tests share: sentences of the document, answers compared, nets made, texts read. */
final class Check {
    interface Call {
        long answer();
    }

    /** A call on an object. */
    interface Use {
        long on(ToldNet x);
    }

    /** An object with all calls that make it what it is. */
    interface Maker {
        ToldNet made();
    }

    private static final Path DOC = Path.of("../shared/DOC.md");
    private static final Map<String, String> PARTS = parts();

    private int asked = 0;
    private int wrong = 0;
    private String about = "";

    /** The document's parts: "1" to "47" the promises, "I" to "V" the terms, "" what is ahead of these. */
    static Map<String, String> parts() {
        Map<String, String> parts = new HashMap<>();
        String name = "";
        try {
            for (String line : Files.readAllLines(DOC)) {
                if (line.startsWith("## ")) {
                    name = line.startsWith("## Promise ") ? line.substring(11, line.indexOf(':')) : "";
                } else if (line.startsWith("==== ")) {
                    name = line.substring(5, line.indexOf('.'));
                }
                parts.merge(name, line.strip() + " ", String::concat);
            }
        } catch (IOException e) {
            System.out.println("no document at " + DOC);
        }
        return parts;
    }

    /** Names the sentence of a promise that the answers from here on are due by. */
    void promise(int number, String sentence) {
        name("promise " + number, PARTS.getOrDefault("" + number, ""), sentence);
    }

    /** Names the sentence of a section of the terms that the answers from here on are due by. */
    void terms(String section, String sentence) {
        name("terms " + section, PARTS.getOrDefault(section, ""), sentence);
    }

    private void name(String where, String part, String sentence) {
        about = where + " \"" + sentence + "\": ";
        due("stands in the document", part.contains(sentence), true);
    }

    void due(String what, long got, long want) {
        asked++;
        if (got != want) {
            wrong++;
            System.out.println(about + what + ": answered " + got + ", due is " + want);
        }
    }

    void due(String what, String got, String want) {
        due(what + ": " + got + ", due is " + want + ", alike", got.equals(want), true);
    }

    /** Calls on one object that must all be answered alike and leave it as if none had been made. */
    void refused(Maker maker, long due, Use... calls) {
        ToldNet x = maker.made();
        for (int i = 0; i < calls.length; i++) {
            due("refused call " + i, calls[i].on(x), due);
        }
        due("nothing happens", state(x), state(maker.made()));
    }

    /** All that small nets and their tellings are, as far as questions can tell it. */
    static String state(ToldNet x) {
        StringBuilder s = new StringBuilder("counts");
        for (int what = 0; what < 7; what++) {
            s.append(' ').append(x.count(what));
        }
        s.append(", fault at ").append(x.place()).append(", ties");
        int n = x.count(0);
        int today = x.count(2);
        for (int a = 0; a < n; a++) {
            for (int b = a + 1; b < n; b++) {
                s.append(' ').append(x.tied(a, b, today));
            }
        }
        s.append(", marks");
        for (int p = 0; p < n; p++) {
            s.append(' ').append(x.nearly(14, p));
        }
        for (int t = 0; t < x.count(4); t++) {
            s.append("; ").append(telling(x, t, n));
        }
        return s.toString();
    }

    private static String telling(ToldNet x, int t, int n) {
        StringBuilder s = new StringBuilder("length " + x.length(t) + ", harm " + x.harm(t) + ", rows");
        int boxes = x.count(10 + t);
        int words = x.count(20 + t);
        int excepts = x.count(30 + t);
        for (int b = 0; b < boxes; b++) {
            s.append(" /");
            int post = x.row(t, b, 0);
            for (int i = 1; post != ToldNet.NONE && i <= n; i++) {
                s.append(' ').append(post);
                post = x.row(t, b, i);
            }
        }
        s.append(", words");
        for (int k = 0; k < words; k++) {
            s.append(' ').append(x.word(t, k, 0)).append('.').append(x.word(t, k, 1)).append('.').append(x.word(t, k, 2));
        }
        s.append(", excepts");
        for (int k = 0; k < excepts; k++) {
            s.append(' ').append(x.except(t, k, 0)).append('-').append(x.except(t, k, 1));
            s.append(x.except(t, k, 2) == 1 ? " not" : " also").append(x.except(t, k, 3) == 1 ? " left out" : "");
        }
        return s.toString();
    }

    void due(String what, boolean got, boolean want) {
        due(what, got ? 1 : 0, want ? 1 : 0);
    }

    /** All answers of a row of calls alike. */
    void noneOf(String what, long... answers) {
        for (int i = 0; i < answers.length; i++) {
            due(what + " " + i, answers[i], ToldNet.NONE);
        }
    }

    void noSuch(String what, Call call) {
        due(what + " (1: NoSuchElementException, 2: IllegalArgumentException)", thrown(call), 1);
    }

    void badWhat(String what, Call call) {
        due(what + " (1: NoSuchElementException, 2: IllegalArgumentException)", thrown(call), 2);
    }

    private static int thrown(Call call) {
        try {
            call.answer();
            return 0;
        } catch (NoSuchElementException e) {
            return 1;
        } catch (IllegalArgumentException e) {
            return 2;
        }
    }

    void finish(String test) {
        System.out.println(test + ": " + asked + " answers, " + wrong + " not as due");
        System.exit(wrong == 0 ? 0 : 1);
    }

    static ToldNet net(int n, int... ends) {
        ToldNet x = new ToldNet();
        x.net(n);
        for (int i = 0; i + 1 < ends.length; i += 2) {
            x.tie(ends[i], ends[i + 1], true);
        }
        return x;
    }

    /** A net with all ties. */
    static ToldNet full(int n) {
        ToldNet x = net(n);
        for (int a = 0; a < n; a++) {
            for (int b = a + 1; b < n; b++) {
                x.tie(a, b, true);
            }
        }
        return x;
    }

    /** Puts a text on the tape. */
    static int feed(ToldNet x, String text) {
        StringBuilder s = new StringBuilder(text);
        while (s.length() % 20 != 0) {
            s.append(' ');
        }
        int size = x.count(6);
        for (int i = 0; i < s.length(); i += 20) {
            size = x.feed(four(s, i), four(s, i + 4), four(s, i + 8), four(s, i + 12), four(s, i + 16));
        }
        return size == ToldNet.NONE ? size : x.back(s.length() - text.length());
    }

    private static int four(CharSequence s, int i) {
        return s.charAt(i) << 24 | s.charAt(i + 1) << 16 | s.charAt(i + 2) << 8 | s.charAt(i + 3);
    }

    /** Reads a text from an empty tape. */
    static int read(ToldNet x, String text) {
        feed(x, text);
        return x.read();
    }
}
