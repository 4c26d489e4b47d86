import java.lang.reflect.InvocationTargetException;
import java.lang.reflect.Method;
import java.util.ArrayList;
import java.util.Arrays;
import java.util.Collections;
import java.util.HashMap;
import java.util.List;
import java.util.Map;
import java.util.Random;

/**
 * Runs of calls drawn from written seeds, each answered by ToldNet and by Model alike.
 * Arguments: the first seed and how many runs (1 and 60 if none are told).
 */
public final class ModelRuns {
    private static final Map<String, Method> ON_NET = methods(ToldNet.class);
    private static final Map<String, Method> ON_MODEL = methods(Model.class);
    private static int wrong = 0;
    private static int calls = 0;
    private static final Map<String, Integer> ANSWERS = new HashMap<>();

    private final Random random;
    private final ToldNet net = new ToldNet();
    private final Model model = new Model();
    private final List<String> log = new ArrayList<>();
    private final int seed;
    private int n = 2;
    private int tellings = 0;
    private boolean off = false;

    private ModelRuns(int seed) {
        this.seed = seed;
        this.random = new Random(seed);
    }

    public static void main(String[] args) {
        int first = args.length > 0 ? Integer.parseInt(args[0]) : 1;
        int runs = args.length > 1 ? Integer.parseInt(args[1]) : 60;
        for (int seed = first; seed < first + runs; seed++) {
            new ModelRuns(seed).run();
        }
        System.out.println(runs + " runs, " + calls + " calls, " + wrong + " runs went apart");
        if (args.length > 2) {
            List<String> seen = new ArrayList<>();
            ANSWERS.forEach((k, v) -> seen.add(k + " x" + v));
            Collections.sort(seen);
            System.out.println(String.join("\n", seen));
        }
        System.exit(wrong == 0 ? 0 : 1);
    }

    private static Map<String, Method> methods(Class<?> c) {
        Map<String, Method> map = new HashMap<>();
        for (Method m : c.getDeclaredMethods()) {
            if (java.lang.reflect.Modifier.isPublic(m.getModifiers())) {
                m.setAccessible(true);
                map.put(m.getName(), m);
            }
        }
        return map;
    }

    private static String answer(Object on, Method m, Object[] args) {
        try {
            return String.valueOf(m.invoke(on, args));
        } catch (InvocationTargetException e) {
            return "throws." + e.getCause().getClass().getSimpleName();
        } catch (IllegalAccessException e) {
            throw new IllegalStateException(e);
        }
    }

    private int call(String name, Object... args) {
        if (log.size() >= 512 || off) {
            return -1;
        }
        String got = answer(net, ON_NET.get(name), args);
        String due = answer(model, ON_MODEL.get(name), args);
        calls++;
        ANSWERS.merge(name + (due.startsWith("-") || due.startsWith("throws") ? " " + due : " some"), 1, Integer::sum);
        if (name.equals("read")) {
            ANSWERS.merge("read " + due, 1, Integer::sum);
        }
        log.add(name + Arrays.toString(args) + " = " + got);
        if (!got.equals(due)) {
            wrong++;
            off = true;
            System.out.println("seed " + seed + ", call " + log.size() + ": " + name + Arrays.toString(args)
                + " answered " + got + ", by the model " + due);
        }
        return due.matches("-?\\d+") ? Integer.parseInt(due) : -1;
    }

    private int below(int k) {
        return random.nextInt(k);
    }

    private boolean one(int of) {
        return random.nextInt(of) == 0;
    }

    private void run() {
        int[] sizes = {2, 3, 4, 5, 5, 6, 6, 7, 8, 9, 10, 12, 14, 16};
        begin(sizes[below(sizes.length)]);
        while (log.size() < 512 && !off) {
            tellings = model.count(4);
            if (one(60)) {
                begin(one(10) ? below(20) - 1 : sizes[below(sizes.length)]);
            } else if (tellings < 5 && one(8) || tellings == 0) {
                if (one(2)) {
                    call("make", one(20) ? below(7) - 1 : n > 8 && one(3) ? 4 : below(5));
                } else {
                    readText();
                }
            } else if (one(25)) {
                call("drop");
            } else if (seed % 5 == 0 && one(2)) {
                wild();
            } else {
                step();
            }
        }
    }

    /** Any call, with any arguments. */
    private void wild() {
        List<String> names = new ArrayList<>(ON_NET.keySet());
        Collections.sort(names);
        String name = names.get(below(names.size()));
        Class<?>[] types = ON_NET.get(name).getParameterTypes();
        Object[] args = new Object[types.length];
        for (int i = 0; i < args.length; i++) {
            args[i] = types[i] == boolean.class ? (Object) one(2) : (Object) anyNumber();
        }
        if (name.equals("net") && !one(20)) {
            return;
        }
        call(name, args);
        n = model.count(0);
    }

    private int anyNumber() {
        int[] edges = {Integer.MIN_VALUE, Integer.MAX_VALUE, -1, 16, 17, 31, 32, 64, 255, 256, 1 << 16, -2, 40, 41};
        return one(6) ? edges[below(edges.length)] : one(20) ? random.nextInt() : below(n + 1);
    }

    private void begin(int k) {
        call("net", k);
        if (k < 2 || k > 16) {
            return;
        }
        n = k;
        int style = below(4);
        int groups = 1 + below(4);
        for (int a = 0; a < n; a++) {
            for (int b = a + 1; b < n; b++) {
                boolean alike = a % groups == b % groups;
                boolean is = style == 0 ? one(2) : style == 1 ? alike != one(8) : style == 2 ? b == a + 1 : one(4);
                if (is) {
                    boolean turned = one(2);
                    call("tie", turned ? b : a, turned ? a : b, true);
                }
            }
        }
        for (int p = 0; p < n; p++) {
            if (one(3)) {
                call("mark", p, below(4));
            }
        }
    }

    private int post() {
        return one(25) ? new int[] {-1, n, 16, Integer.MIN_VALUE, Integer.MAX_VALUE}[below(5)] : below(n);
    }

    private int telling() {
        return one(25) ? below(8) - 1 : below(Math.max(1, tellings));
    }

    private int day() {
        return one(15) ? below(43) - 1 : below(model.count(2) + 1);
    }

    private void step() {
        switch (below(34)) {
            case 0:
                call("tie", post(), post(), one(2));
                break;
            case 1:
                call(one(3) ? "tomorrow" : "rounds");
                break;
            case 2:
                call("mark", post(), below(6) - 1);
                break;
            case 3:
                call("ties", post(), day());
                call("tied", post(), post(), day());
                break;
            case 4:
                call("compare", day(), day(), below(5) - 1);
                break;
            case 5:
                call("copy", telling());
                break;
            case 6:
                call("count", one(2) ? below(45) - 2 : 10 * (1 + below(3)) + below(5));
                break;
            case 7:
                look(telling());
                break;
            case 8:
                call("unlike", telling(), day());
                call("built", telling(), post(), post());
                break;
            case 9:
                int t = telling();
                call("together", t, below(n), below(n));
                look(t);
                break;
            case 10:
                t = telling();
                call("apart", t, post());
                look(t);
                break;
            case 11:
                call("bound");
                if (one(4)) {
                    call("bests");
                }
                break;
            case 12, 13, 14:
                leaveSome();
                break;
            case 15, 16:
                call("sort", telling(), post(), post(), one(2), below(4) - (one(5) ? 1 : 0));
                break;
            case 17, 18, 19, 20:
                question("ask");
                question("mean");
                break;
            case 21, 22:
                question("leads");
                question("led");
                break;
            case 23, 24:
                question("reader");
                call("harm", telling());
                break;
            case 25:
                serve();
                break;
            case 26:
                call("coarsest", post());
                call("nearly", one(10) ? below(18) - 1 : below(6), post());
                break;
            case 27:
                t = telling();
                call("mend", t);
                look(t);
                break;
            case 28, 29:
                call("broken", telling(), telling());
                break;
            case 30:
                t = telling();
                call("line", t);
                call("at", t, below(n + 2) - 1);
                break;
            case 31:
                t = telling();
                for (int i = one(4) ? -1 : 0; i < 4; i++) {
                    call("sentence", t, i);
                    call("spares", t, i);
                }
                break;
            case 32:
                call("odds", telling(), random.nextInt(), one(8) ? below(44) - 2 : below(8));
                break;
            default:
                call("chance", random.nextInt(), post(), post());
        }
    }

    private void look(int t) {
        call("length", t);
        for (int i = 0; i < 4; i++) {
            call("box", t, post());
            call("row", t, one(12) ? below(n + 2) - 1 : below(Math.max(1, countOf(t, 10))), below(3) - (one(12) ? 1 : 0));
            call("word", t, number(countOf(t, 20)), one(15) ? below(7) - 2 : below(3));
            call("except", t, number(countOf(t, 30)), one(15) ? below(8) - 2 : below(4));
        }
    }

    private int countOf(int t, int what) {
        return t < 0 || t > 9 ? 0 : model.count(what + t);
    }

    private int number(int count) {
        return one(12) || count < 1 ? count - below(2) * (count + 1) : below(count);
    }

    private void leaveSome() {
        int t = telling();
        int count = countOf(t, 30);
        for (int i = 0; i < 3; i++) {
            call("leave", t, one(15) || count < 1 ? below(10) - 2 : below(count), !one(4));
        }
        call("length", t);
    }

    private void question(String name) {
        int kind = one(25) ? below(9) - 2 : below(6);
        int a = kind == 2 ? below(1 << n) : post();
        if (kind == 2 && one(20)) {
            a = one(2) ? -1 : 1 << n;
        }
        int b = kind == 0 || kind > 2 ? post() : random.nextInt();
        int t = telling();
        switch (name) {
            case "ask":
                call(name, t, kind, a, b, false);
                call(name, t, kind, a, b, true);
                break;
            case "led":
                call(name, t, kind, a, b, below(3) - (one(9) ? 1 : 0));
                break;
            case "reader":
                call(name, kind, a, b, one(10) ? below(12) - 1 : 1 + below(9));
                break;
            default:
                call(name, t, kind, a, b);
        }
    }

    private void serve() {
        int t = telling();
        int length = call("length", t);
        call("serve", t, one(20) ? random.nextInt() : length + below(60) - 40);
        call("length", t);
        call("harm", t);
        for (int k = 0; k < 5; k++) {
            call("except", t, below(10), 3);
        }
    }

    // ---- texts

    private void readText() {
        String text = spaced(one(4) ? messyTells() : tells());
        if (one(25)) {
            text = garble(text);
        }
        if (text.length() > 2000) {
            return;
        }
        String padded = text + " ".repeat((20 - text.length() % 20) % 20);
        for (int i = 0; i < padded.length(); i += 20) {
            call("feed", four(padded, i), four(padded, i + 4), four(padded, i + 8), four(padded, i + 12),
                four(padded, i + 16));
        }
        call("back", one(30) ? 3000 : padded.length() - text.length());
        call("read");
        call("place");
        call("count", 6);
    }

    private static int four(String s, int i) {
        return s.charAt(i) << 24 | s.charAt(i + 1) << 16 | s.charAt(i + 2) << 8 | s.charAt(i + 3);
    }

    private String spaced(List<String> tokens) {
        String[] blanks = {" ", " ", " ", "  ", "\t", "\n", "\r"};
        StringBuilder s = new StringBuilder();
        for (int i = 0; i < tokens.size(); i++) {
            s.append(tokens.get(i));
            boolean words = i + 1 < tokens.size() && tokens.get(i + 1).matches("[a-z0-9]+") && tokens.get(i).matches("[a-z0-9]+");
            boolean mixed = words && tokens.get(i).matches("[a-z]+") != tokens.get(i + 1).matches("[a-z]+");
            if (words && !mixed || one(3)) {
                s.append(blanks[below(blanks.length)]);
            }
        }
        return s.toString();
    }

    private String garble(String text) {
        if (text.isEmpty()) {
            return "!";
        }
        int at = below(text.length());
        char put = new char[] {';', 'a', '7', (char) 233, (char) 0, 'B', '.', 'q', '1', ' '}[below(10)];
        return text.substring(0, at) + put + text.substring(at + below(2));
    }

    private List<String> tells() {
        String[] all = {"a", "b", "abcdefgh", "boxes", "q", "nota", "z", "sid", "cro", "alsob", "x", "y", "m", "o", "p", "w"};
        List<String> names = new ArrayList<>(Arrays.asList(all));
        Collections.shuffle(names, random);
        int m = 1 + below(Math.min(n, 1 + below(6)));
        List<List<String>> rows = new ArrayList<>();
        for (int b = 0; b < m; b++) {
            rows.add(new ArrayList<>());
        }
        List<Integer> posts = new ArrayList<>();
        for (int p = 0; p < n; p++) {
            posts.add(p);
        }
        Collections.shuffle(posts, random);
        for (int i = 0; i < n; i++) {
            rows.get(i < m ? i : below(m)).add((one(9) ? "0" : "") + posts.get(i));
        }
        List<List<String>> tells = new ArrayList<>();
        for (int b = 0; b < m; b++) {
            List<String> tell = new ArrayList<>(List.of("box", names.get(b)));
            tell.addAll(rows.get(b));
            tells.add(tell);
        }
        int words = below(5);
        for (int w = 0; w < words; w++) {
            tells.add(word(names, rows, m));
        }
        int pairs = below(4);
        for (int i = 0; i < pairs; i++) {
            List<String> row = rows.get(below(m));
            boolean wild = one(12);
            String one = wild || row.size() < 2 ? "" + below(n) : row.get(0);
            String other = wild || row.size() < 2 ? "" + below(n) : row.get(1 + below(row.size() - 1));
            if (!one.equals(other) || one(12)) {
                boolean said = one(15) != wordsOn(tells, names.get(rows.indexOf(row)));
                tells.add(new ArrayList<>(List.of(said ? "not" : "also", one, other)));
            }
        }
        mutate(tells);
        List<String> tokens = new ArrayList<>();
        for (List<String> tell : tells) {
            tokens.addAll(tell);
            tokens.add(";");
        }
        if (one(12) && !tokens.isEmpty()) {
            tokens.remove(below(tokens.size()));
        }
        return tokens;
    }

    /** Tells as they come, most of them with faults of meaning. */
    private List<String> messyTells() {
        String[] names = {"a", "b", "c"};
        List<String> tokens = new ArrayList<>();
        int tells = 2 + below(9);
        for (int i = 0; i < tells; i++) {
            String name = names[below(3)];
            switch (below(8)) {
                case 0:
                    tokens.addAll(List.of("crowd", name));
                    break;
                case 1:
                    tokens.addAll(List.of("chain", name));
                    break;
                case 2:
                    tokens.addAll(List.of("sides", name, names[below(3)]));
                    break;
                case 3:
                    tokens.addAll(List.of("star", "" + below(n + 1), name));
                    break;
                case 4, 5:
                    tokens.addAll(List.of(one(4) ? "not" : "also", "" + below(n), "" + below(one(9) ? n + 1 : n)));
                    break;
                default:
                    tokens.addAll(List.of("box", name, "" + below(n)));
                    for (int k = below(n + 1); k > 0; k--) {
                        tokens.add("" + below(one(9) ? n + 1 : n));
                    }
            }
            tokens.add(";");
        }
        return tokens;
    }

    private static boolean wordsOn(List<List<String>> tells, String name) {
        return tells.contains(List.of("crowd", name));
    }

    private List<String> word(List<String> names, List<List<String>> rows, int m) {
        int b = below(m);
        int c = below(m);
        switch (below(4)) {
            case 0:
                return new ArrayList<>(List.of("crowd", names.get(b)));
            case 1:
                return new ArrayList<>(List.of("chain", names.get(b)));
            case 2:
                return new ArrayList<>(List.of("star", "" + below(n), names.get(b)));
            default:
                boolean other = m > 1 && b == c && !one(3);
                return new ArrayList<>(List.of("sides", names.get(b), names.get(other ? (b + 1) % m : c)));
        }
    }

    private void mutate(List<List<String>> tells) {
        if (one(3)) {
            Collections.swap(tells, below(tells.size()), below(tells.size()));
        }
        if (one(8)) {
            tells.add(below(tells.size() + 1), new ArrayList<>(tells.get(below(tells.size()))));
        }
        if (one(12)) {
            List<String> tell = tells.get(below(tells.size()));
            int at = below(tell.size());
            String[] put = {"99", "12345", "crowd", "a", "zz", "abcdefghi", "0", "1", ";", "" + n};
            tell.set(at, put[below(put.length)]);
        }
        if (one(20)) {
            tells.remove(below(tells.size()));
        }
        if (one(20)) {
            for (int i = 0; i < 12 + below(40); i++) {
                tells.add(new ArrayList<>(List.of("crowd", "a")));
            }
        }
    }
}
