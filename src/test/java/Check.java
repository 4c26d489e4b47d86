import java.util.NoSuchElementException;

/** What the tests share: answers compared, nets made, texts read. */
final class Check {
    interface Call {
        long answer();
    }

    private int asked = 0;
    private int wrong = 0;

    void due(String what, long got, long want) {
        asked++;
        if (got != want) {
            wrong++;
            System.out.println(what + ": answered " + got + ", due is " + want);
        }
    }

    void due(String what, boolean got, boolean want) {
        due(what, got ? 1 : 0, want ? 1 : 0);
    }

    /** All answers of a row of calls alike. */
    void noneOf(String what, long... answers) {
        for (int i = 0; i < answers.length; i++) {
            due(what + " " + i, answers[i], ToldNet.NONE);
        }
    }

    void noSuch(String what, Call call) {
        due(what + " (1: NoSuchElementException, 2: IllegalArgumentException)", thrown(call), 1);
    }

    void badWhat(String what, Call call) {
        due(what + " (1: NoSuchElementException, 2: IllegalArgumentException)", thrown(call), 2);
    }

    private static int thrown(Call call) {
        try {
            call.answer();
            return 0;
        } catch (NoSuchElementException e) {
            return 1;
        } catch (IllegalArgumentException e) {
            return 2;
        }
    }

    void finish(String test) {
        System.out.println(test + ": " + asked + " answers, " + wrong + " not as due");
        System.exit(wrong == 0 ? 0 : 1);
    }

    static ToldNet net(int n, int... ends) {
        ToldNet x = new ToldNet();
        x.net(n);
        for (int i = 0; i + 1 < ends.length; i += 2) {
            x.tie(ends[i], ends[i + 1], true);
        }
        return x;
    }

    /** A net with all ties. */
    static ToldNet full(int n) {
        ToldNet x = net(n);
        for (int a = 0; a < n; a++) {
            for (int b = a + 1; b < n; b++) {
                x.tie(a, b, true);
            }
        }
        return x;
    }

    /** Puts a text on the tape. */
    static int feed(ToldNet x, String text) {
        StringBuilder s = new StringBuilder(text);
        while (s.length() % 20 != 0) {
            s.append(' ');
        }
        int size = x.count(6);
        for (int i = 0; i < s.length(); i += 20) {
            size = x.feed(four(s, i), four(s, i + 4), four(s, i + 8), four(s, i + 12), four(s, i + 16));
        }
        return size == ToldNet.NONE ? size : x.back(s.length() - text.length());
    }

    private static int four(CharSequence s, int i) {
        return s.charAt(i) << 24 | s.charAt(i + 1) << 16 | s.charAt(i + 2) << 8 | s.charAt(i + 3);
    }

    /** Reads a text from an empty tape. */
    static int read(ToldNet x, String text) {
        feed(x, text);
        return x.read();
    }
}
