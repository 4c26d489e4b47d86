import java.util.ArrayList;
import java.util.Arrays;
import java.util.Collections;
import java.util.HashMap;
import java.util.HashSet;
import java.util.LinkedHashMap;
import java.util.List;
import java.util.Map;
import java.util.NoSuchElementException;
import java.util.Set;
import java.util.TreeMap;
import java.util.TreeSet;
import java.util.regex.Matcher;
import java.util.regex.Pattern;

/**
 * The document once more, written as plainly as its sentences go, with lists and sets and no regard
 * to speed. ModelRuns compares it with ToldNet.
 */
final class Model {
    static final int NONE = -1;

    private record Change(int day, int a, int b, boolean is) { }

    private record Pair(int a, int b) implements Comparable<Pair> {
        static Pair of(int x, int y) {
            return new Pair(Math.min(x, y), Math.max(x, y));
        }

        public int compareTo(Pair o) {
            return a != o.a ? Integer.compare(a, o.a) : Integer.compare(b, o.b);
        }

        boolean has(int p) {
            return a == p || b == p;
        }
    }

    private record Word(int sort, int one, int two) implements Comparable<Word> {
        public int compareTo(Word o) {
            if (sort != o.sort) {
                return Integer.compare(sort, o.sort);
            }
            return one != o.one ? Integer.compare(one, o.one) : Integer.compare(two, o.two);
        }
    }

    private record Sort(int box, int other, boolean said) { }

    private record Question(int kind, int a, int b, int weight) { }

    private static final class T {
        List<List<Integer>> rows = new ArrayList<>();
        List<Word> words = new ArrayList<>();
        TreeSet<Pair> excepts = new TreeSet<>();
        Set<Pair> left = new HashSet<>();

        T copy() {
            T c = new T();
            for (List<Integer> r : rows) {
                c.rows.add(new ArrayList<>(r));
            }
            c.words.addAll(words);
            c.excepts.addAll(excepts);
            c.left.addAll(left);
            return c;
        }

        int boxOf(int post) {
            for (int b = 0; b < rows.size(); b++) {
                if (rows.get(b).contains(post)) {
                    return b;
                }
            }
            return NONE;
        }
    }

    private int n = 2;
    private int today = 0;
    private List<Change> changes = new ArrayList<>();
    private int[] marks = new int[16];
    private List<T> tellings = new ArrayList<>();
    private List<Question> questions = new ArrayList<>();
    private StringBuilder tape = new StringBuilder();
    private int latest = NONE;

    // ---- the net

    public int feed(int a, int b, int c, int d, int e) {
        if (tape.length() + 20 > 2000) {
            return NONE;
        }
        for (int w : new int[] {a, b, c, d, e}) {
            tape.append((char) (w >>> 24 & 255)).append((char) (w >>> 16 & 255));
            tape.append((char) (w >>> 8 & 255)).append((char) (w & 255));
        }
        return tape.length();
    }

    public int back(int k) {
        if (k < 0 || k > tape.length()) {
            return NONE;
        }
        tape.setLength(tape.length() - k);
        return tape.length();
    }

    public boolean net(int k) {
        if (k < 2 || k > 16) {
            return false;
        }
        n = k;
        today = 0;
        changes.clear();
        marks = new int[16];
        tellings.clear();
        questions.clear();
        return true;
    }

    private TreeSet<Pair> netOf(int day) {
        TreeSet<Pair> net = new TreeSet<>();
        for (Change c : changes) {
            if (c.day <= day) {
                if (c.is) {
                    net.add(Pair.of(c.a, c.b));
                } else {
                    net.remove(Pair.of(c.a, c.b));
                }
            }
        }
        return net;
    }

    private TreeSet<Pair> now() {
        return netOf(today);
    }

    private boolean post(int p) {
        return 0 <= p && p < n;
    }

    private boolean two(int a, int b) {
        return post(a) && post(b) && a != b;
    }

    private boolean day(int d) {
        return 0 <= d && d <= today;
    }

    private boolean no(int t) {
        return t < 0 || t >= tellings.size();
    }

    public int tie(int a, int b, boolean is) {
        if (changes.size() == 300 || !two(a, b) || now().contains(Pair.of(a, b)) == is) {
            return NONE;
        }
        changes.add(new Change(today, a, b, is));
        return changes.size() - 1;
    }

    public int tomorrow() {
        return today == 40 ? NONE : ++today;
    }

    public boolean mark(int p, int v) {
        if (!post(p) || v < 0 || v > 3) {
            return false;
        }
        marks[p] = v;
        return true;
    }

    private static int degree(Set<Pair> net, int p) {
        int d = 0;
        for (Pair x : net) {
            if (x.has(p)) {
                d++;
            }
        }
        return d;
    }

    public int ties(int p, int d) {
        return !post(p) || !day(d) ? NONE : degree(netOf(d), p);
    }

    public int tied(int a, int b, int d) {
        return !two(a, b) || !day(d) ? NONE : netOf(d).contains(Pair.of(a, b)) ? 1 : 0;
    }

    // ---- texts

    private record Token(char kind, String text, int place) { }

    private record Fault(int place, int number) { }

    private static final Pattern TEXT =
        Pattern.compile("(bNI+;|[ch]N;|sNN;|tIN;|[na]II;)*");

    public int read() {
        if (tellings.size() == 5) {
            return -2;
        }
        String text = tape.toString();
        tape.setLength(0);
        latest = NONE;
        List<Token> tokens = new ArrayList<>();
        Fault fault = syntax(text, tokens);
        T told = new T();
        if (fault == null) {
            fault = meaning(tokens, text.length(), told);
        }
        if (fault != null) {
            latest = fault.place;
            return fault.number;
        }
        tellings.add(told);
        return 0;
    }

    private Fault syntax(String text, List<Token> tokens) {
        Map<String, Character> quoted = Map.of("box", 'b', "crowd", 'c', "chain", 'h', "sides", 's', "star", 't',
            "not", 'n', "also", 'a');
        Matcher m = Pattern.compile("[\t\n\r ]+|[a-z]+|[0-9]+|;|.", Pattern.DOTALL).matcher(text);
        StringBuilder kinds = new StringBuilder();
        int words = 0;
        while (m.find()) {
            String s = m.group();
            char kind;
            if (s.matches("[\t\n\r ]+")) {
                continue;
            } else if (quoted.containsKey(s)) {
                kind = quoted.get(s);
            } else if (s.matches("[a-z]{1,8}")) {
                kind = 'N';
            } else if (s.matches("[0-9]{1,4}")) {
                kind = 'I';
            } else if (s.equals(";")) {
                kind = ';';
            } else {
                kind = '?';
            }
            kinds.append(kind);
            Matcher whole = TEXT.matcher(kinds);
            boolean goes = whole.matches() || whole.hitEnd();
            if (!goes) {
                return new Fault(m.start(), 1);
            }
            if ("chst".indexOf(kind) >= 0) {
                words++;
            }
            tokens.add(new Token(kind, s, m.start()));
            if (tokens.size() == 401 || words == 41) {
                return new Fault(m.start(), 2);
            }
        }
        return TEXT.matcher(kinds).matches() ? null : new Fault(text.length(), 1);
    }

    private Fault meaning(List<Token> tokens, int end, T told) {
        List<Fault> faults = new ArrayList<>();
        LinkedHashMap<String, List<Integer>> boxes = new LinkedHashMap<>();
        Set<Integer> placed = new HashSet<>();
        Set<List<Object>> words = new HashSet<>();
        Set<Pair> said = new HashSet<>();
        Set<Pair> pairs = new HashSet<>();
        Map<Pair, Integer> alsos = new HashMap<>();
        int i = 0;
        while (i < tokens.size()) {
            int j = i;
            while (tokens.get(j).kind != ';') {
                j++;
            }
            List<Token> tell = tokens.subList(i, j);
            i = j + 1;
            char kind = tell.get(0).kind;
            if (kind == 'b') {
                tellBox(tell, boxes, placed, faults);
            } else if (kind == 'n' || kind == 'a') {
                tellPair(tell, said, pairs, alsos, faults);
            } else {
                tellWord(tell, boxes, words, said, faults);
            }
        }
        for (Map.Entry<Pair, Integer> also : alsos.entrySet()) {
            if (said.contains(also.getKey())) {
                faults.add(new Fault(also.getValue(), 5));
            }
        }
        if (placed.size() < n) {
            faults.add(new Fault(end, 6));
        }
        faults.sort((x, y) -> x.place != y.place ? x.place - y.place : x.number - y.number);
        if (!faults.isEmpty()) {
            return faults.get(0);
        }
        List<String> names = new ArrayList<>(boxes.keySet());
        names.sort((x, y) -> Collections.min(boxes.get(x)) - Collections.min(boxes.get(y)));
        for (String name : names) {
            told.rows.add(boxes.get(name));
        }
        for (List<Object> w : words) {
            told.words.add(number(w, names));
        }
        Collections.sort(told.words);
        told.excepts.addAll(pairs);
        return null;
    }

    private static Word number(List<Object> w, List<String> names) {
        if (w.get(0).equals('s')) {
            TreeSet<Integer> both = new TreeSet<>();
            for (Object name : (Set<?>) w.get(1)) {
                both.add(names.indexOf(name));
            }
            return new Word(1, both.first(), both.last());
        }
        if (w.get(0).equals('t')) {
            return new Word(2, (Integer) w.get(1), names.indexOf(w.get(2)));
        }
        return new Word(w.get(0).equals('c') ? 0 : 3, names.indexOf(w.get(1)), NONE);
    }

    private void tellBox(List<Token> tell, Map<String, List<Integer>> boxes, Set<Integer> placed, List<Fault> faults) {
        Token name = tell.get(1);
        boolean twice = boxes.containsKey(name.text);
        if (twice) {
            faults.add(new Fault(name.place, 3));
        }
        List<Integer> row = new ArrayList<>();
        for (Token t : tell.subList(2, tell.size())) {
            int p = Integer.parseInt(t.text);
            if (p >= n) {
                faults.add(new Fault(t.place, 5));
            } else if (!placed.add(p)) {
                faults.add(new Fault(t.place, 3));
            }
            row.add(p);
        }
        if (!twice) {
            boxes.put(name.text, row);
        }
    }

    private void tellPair(List<Token> tell, Set<Pair> said, Set<Pair> pairs, Map<Pair, Integer> alsos,
            List<Fault> faults) {
        int a = Integer.parseInt(tell.get(1).text);
        int b = Integer.parseInt(tell.get(2).text);
        int place = tell.get(2).place;
        if (a >= n) {
            faults.add(new Fault(tell.get(1).place, 5));
        }
        if (b >= n) {
            faults.add(new Fault(place, 5));
        }
        if (a >= n || b >= n) {
            return;
        }
        if (a == b) {
            faults.add(new Fault(place, 5));
            return;
        }
        Pair pair = Pair.of(a, b);
        if (!pairs.add(pair)) {
            faults.add(new Fault(place, 3));
        }
        if (tell.get(0).kind == 'n') {
            if (!said.contains(pair)) {
                faults.add(new Fault(place, 5));
            }
        } else {
            alsos.putIfAbsent(pair, place);
        }
    }

    private void tellWord(List<Token> tell, Map<String, List<Integer>> boxes, Set<List<Object>> words, Set<Pair> said,
            List<Fault> faults) {
        boolean good = true;
        for (Token t : tell) {
            if (t.kind == 'N' && !boxes.containsKey(t.text)) {
                faults.add(new Fault(t.place, 4));
                good = false;
            }
            if (t.kind == 'I' && Integer.parseInt(t.text) >= n) {
                faults.add(new Fault(t.place, 5));
                good = false;
            }
        }
        if (!good) {
            return;
        }
        char kind = tell.get(0).kind;
        Token last = tell.get(tell.size() - 1);
        List<Integer> box = boxes.get(last.text);
        List<Object> word;
        Set<Pair> says;
        boolean itself = false;
        if (kind == 's') {
            itself = tell.get(1).text.equals(last.text);
            word = List.of('s', new HashSet<>(List.of(tell.get(1).text, last.text)));
            says = cross(boxes.get(tell.get(1).text), box);
        } else if (kind == 't') {
            int p = Integer.parseInt(tell.get(1).text);
            word = List.of('t', p, last.text);
            says = cross(List.of(p), box);
        } else {
            word = List.of(kind, last.text);
            says = kind == 'c' ? cross(box, box) : chain(box);
        }
        if (says.isEmpty() || itself) {
            faults.add(new Fault(last.place, 5));
        }
        if (!words.add(word)) {
            faults.add(new Fault(tell.get(0).place, 3));
        }
        said.addAll(says);
    }

    private static Set<Pair> cross(List<Integer> ones, List<Integer> others) {
        Set<Pair> pairs = new HashSet<>();
        for (int p : ones) {
            for (int q : others) {
                if (p != q) {
                    pairs.add(Pair.of(p, q));
                }
            }
        }
        return pairs;
    }

    private static Set<Pair> chain(List<Integer> row) {
        Set<Pair> pairs = new HashSet<>();
        for (int i = 1; i < row.size(); i++) {
            if (!row.get(i - 1).equals(row.get(i))) {
                pairs.add(Pair.of(row.get(i - 1), row.get(i)));
            }
        }
        return pairs;
    }

    public int place() {
        return latest;
    }

    // ---- tellings and their lengths

    private static int bits(int k) {
        int b = 1;
        while (Math.pow(2, b) < k) {
            b++;
        }
        return b;
    }

    private int bigE() {
        return 2 + 2 * bits(n);
    }

    private int bitsOf(Word w, int m) {
        int[] all = {3 + bits(m), 3 + 2 * bits(m), 3 + bits(n) + bits(m), 3 + bits(m)};
        return all[w.sort];
    }

    private static Set<Pair> says(T t, Word w) {
        switch (w.sort) {
            case 0:
                return cross(t.rows.get(w.one), t.rows.get(w.one));
            case 1:
                return cross(t.rows.get(w.one), t.rows.get(w.two));
            case 2:
                return cross(List.of(w.one), t.rows.get(w.two));
            default:
                return chain(t.rows.get(w.one));
        }
    }

    private static Set<Pair> said(T t) {
        Set<Pair> all = new HashSet<>();
        for (Word w : t.words) {
            all.addAll(says(t, w));
        }
        return all;
    }

    private static Set<Pair> xor(Set<Pair> a, Set<Pair> b) {
        Set<Pair> x = new TreeSet<>(a);
        for (Pair p : b) {
            if (!x.remove(p)) {
                x.add(p);
            }
        }
        return x;
    }

    private static Set<Pair> builds(T t) {
        return xor(said(t), t.excepts);
    }

    private List<Pair> allPairs() {
        List<Pair> all = new ArrayList<>();
        for (int a = 0; a < n; a++) {
            for (int b = a + 1; b < n; b++) {
                all.add(new Pair(a, b));
            }
        }
        return all;
    }

    private static Sort sortOf(T t, Pair p, boolean said) {
        int x = t.boxOf(p.a);
        int y = t.boxOf(p.b);
        return new Sort(Math.min(x, y), Math.max(x, y), said);
    }

    /** Of each sort that has any: its R pairs that no told except is of. */
    private Map<Sort, List<Pair>> frees(T t) {
        Set<Pair> said = said(t);
        Map<Sort, List<Pair>> map = new HashMap<>();
        for (Pair p : allPairs()) {
            if (!t.excepts.contains(p) || t.left.contains(p)) {
                map.computeIfAbsent(sortOf(t, p, said.contains(p)), s -> new ArrayList<>()).add(p);
            }
        }
        return map;
    }

    private static int gone(T t, List<Pair> free) {
        int c = 0;
        for (Pair p : free) {
            if (t.left.contains(p)) {
                c++;
            }
        }
        return c;
    }

    private int lengthOf(T t) {
        int m = t.rows.size();
        int length = n * bits(n) + 4 * m;
        for (Word w : t.words) {
            length += bitsOf(w, m);
        }
        length += bigE() * (t.excepts.size() - t.left.size());
        if (!t.left.isEmpty()) {
            for (List<Pair> free : frees(t).values()) {
                if (gone(t, free) > 0) {
                    length += 4 + 2 * bits(m) + bits(free.size() + 1);
                }
            }
        }
        return length;
    }

    /** The telling of boxes (any order) with words by the rule for a net. */
    private T byRule(List<? extends List<Integer>> boxes, Set<Pair> net) {
        T t = new T();
        for (List<Integer> b : boxes) {
            t.rows.add(new ArrayList<>(new TreeSet<>(b)));
        }
        t.rows.sort((x, y) -> x.get(0) - y.get(0));
        int m = t.rows.size();
        Set<Pair> said = new HashSet<>();
        List<Word> first = new ArrayList<>();
        List<Word> stars = new ArrayList<>();
        List<Word> chains = new ArrayList<>();
        for (int a = 0; a < m; a++) {
            if (t.rows.get(a).size() > 1) {
                first.add(new Word(0, a, NONE));
                chains.add(new Word(3, a, NONE));
            }
            for (int b = a + 1; b < m; b++) {
                first.add(new Word(1, a, b));
            }
            for (int p = 0; p < n; p++) {
                if (!t.rows.get(a).equals(List.of(p))) {
                    stars.add(new Word(2, p, a));
                }
            }
        }
        take(t, first, net, said, m);
        take(t, stars, net, said, m);
        for (int b = 0; b < m; b++) {
            t.rows.set(b, layRow(t.rows.get(b), net));
        }
        take(t, chains, net, said, m);
        Collections.sort(t.words);
        t.excepts.addAll(xor(said, net));
        return t;
    }

    private void take(T t, List<Word> words, Set<Pair> net, Set<Pair> said, int m) {
        Collections.sort(words);
        for (Word w : words) {
            if (spared(t, w, net, said, m) > 0) {
                t.words.add(w);
                said.addAll(says(t, w));
            }
        }
    }

    private int spared(T t, Word w, Set<Pair> net, Set<Pair> said, int m) {
        int balance = 0;
        for (Pair p : says(t, w)) {
            if (!said.contains(p)) {
                balance += net.contains(p) ? 1 : -1;
            }
        }
        return bigE() * balance - bitsOf(w, m);
    }

    private static List<Integer> layRow(List<Integer> box, Set<Pair> net) {
        List<Integer> rest = new ArrayList<>(box);
        List<Integer> row = new ArrayList<>();
        int next = NONE;
        int fewest = 99;
        for (int p : box) {
            int ties = 0;
            for (int q : box) {
                if (net.contains(Pair.of(p, q))) {
                    ties++;
                }
            }
            if (ties < fewest) {
                fewest = ties;
                next = p;
            }
        }
        while (true) {
            row.add(next);
            rest.remove((Integer) next);
            if (rest.isEmpty()) {
                return row;
            }
            int last = next;
            next = rest.get(0);
            for (int q : rest) {
                if (net.contains(Pair.of(last, q))) {
                    next = q;
                    break;
                }
            }
        }
    }

    private List<List<Integer>> sorted(List<List<Integer>> boxes) {
        List<List<Integer>> s = new ArrayList<>();
        for (List<Integer> b : boxes) {
            if (!b.isEmpty()) {
                s.add(new ArrayList<>(new TreeSet<>(b)));
            }
        }
        s.sort((x, y) -> x.get(0) - y.get(0));
        return s;
    }

    private List<List<Integer>> rulesParting(Set<Pair> net) {
        List<List<Integer>> boxes = new ArrayList<>();
        for (int p = 0; p < n; p++) {
            boxes.add(List.of(p));
        }
        int length = lengthOf(byRule(boxes, net));
        while (true) {
            List<List<Integer>> best = null;
            for (int a = 0; a < boxes.size(); a++) {
                for (int b = a + 1; b < boxes.size(); b++) {
                    List<List<Integer>> next = new ArrayList<>(boxes);
                    List<Integer> both = new ArrayList<>(boxes.get(a));
                    both.addAll(boxes.get(b));
                    next.set(a, both);
                    next.remove(b);
                    int l = lengthOf(byRule(next, net));
                    if (l < length) {
                        length = l;
                        best = next;
                    }
                }
            }
            if (best == null) {
                break;
            }
            boxes = sorted(best);
        }
        boolean moved = true;
        while (moved) {
            moved = false;
            for (int p = 0; p < n; p++) {
                List<List<Integer>> without = new ArrayList<>();
                for (List<Integer> b : boxes) {
                    List<Integer> c = new ArrayList<>(b);
                    c.remove((Integer) p);
                    without.add(c);
                }
                without = sorted(without);
                List<List<Integer>> best = null;
                for (int b = 0; b <= without.size(); b++) {
                    List<List<Integer>> next = new ArrayList<>(without);
                    List<Integer> with = b < without.size() ? new ArrayList<>(without.get(b)) : new ArrayList<>();
                    with.add(p);
                    if (b < without.size()) {
                        next.set(b, with);
                    } else {
                        next.add(with);
                    }
                    int l = lengthOf(byRule(next, net));
                    if (l < length) {
                        length = l;
                        best = next;
                    }
                }
                if (best != null) {
                    boxes = sorted(best);
                    moved = true;
                }
            }
        }
        return boxes;
    }

    private static void partings(int from, int to, int p, List<List<Integer>> sofar, List<List<List<Integer>>> all) {
        if (p == to) {
            List<List<Integer>> c = new ArrayList<>();
            for (List<Integer> b : sofar) {
                c.add(new ArrayList<>(b));
            }
            all.add(c);
            return;
        }
        for (int b = 0; b <= sofar.size(); b++) {
            boolean own = b == sofar.size();
            if (own) {
                sofar.add(new ArrayList<>());
            }
            sofar.get(b).add(p);
            partings(from, to, p + 1, sofar, all);
            sofar.get(b).remove((Integer) p);
            if (own) {
                sofar.remove(b);
                break;
            }
        }
    }

    private List<List<List<Integer>>> leasts() {
        List<List<List<Integer>>> all = new ArrayList<>();
        partings(0, n, 0, new ArrayList<>(), all);
        Set<Pair> net = now();
        TreeMap<Integer, List<List<List<Integer>>>> byLength = new TreeMap<>();
        for (List<List<Integer>> boxes : all) {
            byLength.computeIfAbsent(lengthOf(byRule(boxes, net)), l -> new ArrayList<>()).add(boxes);
        }
        return byLength.firstEntry().getValue();
    }

    private int rounds = 0;

    private List<List<Integer>> coarsestBoxes() {
        Set<Pair> net = now();
        String[] color = new String[n];
        for (int p = 0; p < n; p++) {
            color[p] = "" + marks[p];
        }
        List<List<Integer>> boxes = group(color);
        rounds = 0;
        while (true) {
            String[] next = new String[n];
            for (int p = 0; p < n; p++) {
                StringBuilder s = new StringBuilder();
                for (List<Integer> b : boxes) {
                    int k = 0;
                    for (int q : b) {
                        k += net.contains(Pair.of(p, q)) ? 1 : 0;
                    }
                    s.append(b.contains(p) ? "*" : "").append(k).append(',');
                }
                next[p] = s.toString();
            }
            List<List<Integer>> finer = group(next);
            if (finer.size() == boxes.size()) {
                return boxes;
            }
            rounds++;
            boxes = finer;
        }
    }

    private List<List<Integer>> group(String[] color) {
        LinkedHashMap<String, List<Integer>> map = new LinkedHashMap<>();
        for (int p = 0; p < n; p++) {
            map.computeIfAbsent(color[p], c -> new ArrayList<>()).add(p);
        }
        return new ArrayList<>(map.values());
    }

    public int make(int how) {
        if (tellings.size() == 5 || how < 0 || how > 4 || how == 3 && n > 8) {
            return NONE;
        }
        List<List<Integer>> boxes = new ArrayList<>();
        if (how == 0) {
            for (int p = 0; p < n; p++) {
                boxes.add(List.of(p));
            }
        } else if (how == 1) {
            List<Integer> all = new ArrayList<>();
            for (int p = 0; p < n; p++) {
                all.add(p);
            }
            boxes.add(all);
        } else if (how == 2) {
            boxes = rulesParting(now());
        } else if (how == 3) {
            boxes = leasts().get(0);
        } else {
            boxes = coarsestBoxes();
        }
        tellings.add(byRule(boxes, now()));
        return tellings.size() - 1;
    }

    public int copy(int t) {
        if (no(t) || tellings.size() == 5) {
            return NONE;
        }
        tellings.add(tellings.get(t).copy());
        return tellings.size() - 1;
    }

    public int drop() {
        if (tellings.isEmpty()) {
            return NONE;
        }
        tellings.remove(tellings.size() - 1);
        return tellings.size();
    }

    public int length(int t) {
        return no(t) ? NONE : lengthOf(tellings.get(t));
    }

    public int box(int t, int p) {
        return no(t) || !post(p) ? NONE : tellings.get(t).boxOf(p);
    }

    public int row(int t, int b, int i) {
        if (no(t) || b < 0 || b >= tellings.get(t).rows.size() || i < 0 || i >= tellings.get(t).rows.get(b).size()) {
            return NONE;
        }
        return tellings.get(t).rows.get(b).get(i);
    }

    public int word(int t, int k, int what) {
        if (no(t) || k < 0 || k >= tellings.get(t).words.size()) {
            throw new NoSuchElementException();
        }
        if (what < 0 || what > 2) {
            throw new IllegalArgumentException();
        }
        Word w = tellings.get(t).words.get(k);
        return what == 0 ? w.sort : what == 1 ? w.one : w.two;
    }

    public int except(int t, int k, int what) {
        if (no(t) || k < 0 || k >= tellings.get(t).excepts.size()) {
            throw new NoSuchElementException();
        }
        if (what < 0 || what > 3) {
            throw new IllegalArgumentException();
        }
        T x = tellings.get(t);
        Pair p = new ArrayList<>(x.excepts).get(k);
        return new int[] {p.a, p.b, said(x).contains(p) ? 1 : 0, x.left.contains(p) ? 1 : 0}[what];
    }

    public int built(int t, int a, int b) {
        return no(t) || !two(a, b) ? NONE : builds(tellings.get(t)).contains(Pair.of(a, b)) ? 1 : 0;
    }

    public int unlike(int t, int d) {
        return no(t) || !day(d) ? NONE : xor(builds(tellings.get(t)), netOf(d)).size();
    }

    public int together(int t, int b, int c) {
        if (no(t)) {
            return NONE;
        }
        T x = tellings.get(t);
        int m = x.rows.size();
        if (b < 0 || c < 0 || b >= m || c >= m || b == c) {
            return NONE;
        }
        List<List<Integer>> boxes = new ArrayList<>(x.rows);
        List<Integer> both = new ArrayList<>(boxes.get(b));
        both.addAll(boxes.get(c));
        boxes.set(b, both);
        boxes.remove(c);
        tellings.set(t, byRule(boxes, builds(x)));
        return length(t);
    }

    public int apart(int t, int p) {
        if (no(t) || !post(p) || tellings.get(t).rows.get(box(t, p)).size() == 1) {
            return NONE;
        }
        T x = tellings.get(t);
        List<List<Integer>> boxes = new ArrayList<>();
        for (List<Integer> b : x.rows) {
            List<Integer> c = new ArrayList<>(b);
            c.remove((Integer) p);
            boxes.add(c);
        }
        boxes.add(List.of(p));
        tellings.set(t, byRule(boxes, builds(x)));
        return length(t);
    }

    public int bound() {
        int best = Integer.MAX_VALUE;
        Set<Pair> net = now();
        for (int m = 1; m <= n; m++) {
            int sum = 0;
            for (int from = 0; from < n; from += 5) {
                List<List<List<Integer>>> all = new ArrayList<>();
                partings(from, Math.min(n, from + 5), from, new ArrayList<>(), all);
                int least = Integer.MAX_VALUE;
                for (List<List<Integer>> boxes : all) {
                    if (boxes.size() <= m) {
                        int wrong = 0;
                        for (int a = 0; a < boxes.size(); a++) {
                            for (int b = a; b < boxes.size(); b++) {
                                Set<Pair> pairs = cross(boxes.get(a), boxes.get(b));
                                int all2 = pairs.size();
                                pairs.retainAll(net);
                                wrong += Math.min(pairs.size(), all2 - pairs.size());
                            }
                        }
                        least = Math.min(least, wrong);
                    }
                }
                sum += least;
            }
            best = Math.min(best, 4 * m + bigE() * sum);
        }
        return n * bits(n) + best;
    }

    public int bests() {
        return n > 8 ? NONE : leasts().size();
    }

    // ---- questions

    public boolean leave(int t, int k, boolean out) {
        if (no(t) || k < 0 || k >= tellings.get(t).excepts.size()) {
            return false;
        }
        Pair p = new ArrayList<>(tellings.get(t).excepts).get(k);
        if (out) {
            tellings.get(t).left.add(p);
        } else {
            tellings.get(t).left.remove(p);
        }
        return true;
    }

    public int sort(int t, int a, int b, boolean said, int what) {
        if (no(t) || !two(a, b) || what < 0 || what > 1) {
            return NONE;
        }
        T x = tellings.get(t);
        List<Pair> free = frees(x).getOrDefault(sortOf(x, Pair.of(a, b), said), List.of());
        return what == 0 ? free.size() : gone(x, free);
    }

    private boolean question(int kind, int a, int b) {
        if (kind == 0 || kind == 3 || kind == 4) {
            return two(a, b);
        }
        if (kind == 1 || kind == 5) {
            return post(a);
        }
        return kind == 2 && a >= 0 && a < Math.pow(2, n);
    }

    private Set<Pair> asked(int kind, int a, int b) {
        Set<Pair> set = new HashSet<>();
        for (Pair p : allPairs()) {
            boolean in = (a >> p.a & 1) != (a >> p.b & 1);
            if (kind == 0 ? p.equals(Pair.of(a, b)) : kind == 1 ? p.has(a) : in) {
                set.add(p);
            }
        }
        return set;
    }

    private int answer(T t, int kind, int a, int b, boolean most) {
        if (kind > 2) {
            return answerNet(t, kind, a, b, most);
        }
        Set<Pair> set = asked(kind, a, b);
        Set<Pair> said = said(t);
        int sum = 0;
        for (Map.Entry<Sort, List<Pair>> e : frees(t).entrySet()) {
            int bigR = e.getValue().size();
            int c = gone(t, e.getValue());
            List<Pair> hit = new ArrayList<>(e.getValue());
            hit.retainAll(set);
            int r = hit.size();
            int few = Math.max(0, c - (bigR - r));
            int many = Math.min(c, r);
            if (e.getKey().said) {
                sum += most ? r - few : r - many;
            } else {
                sum += most ? many : few;
            }
        }
        for (Pair p : t.excepts) {
            if (!t.left.contains(p) && set.contains(p) && !said.contains(p)) {
                sum++;
            }
        }
        return sum;
    }

    private int answerNet(T t, int kind, int a, int b, boolean most) {
        boolean openAre = kind == 3 ? !most : most;
        Set<Pair> said = said(t);
        Set<Pair> net = new HashSet<>();
        Map<Sort, List<Pair>> frees = frees(t);
        for (Pair p : allPairs()) {
            boolean is = said.contains(p);
            if (t.excepts.contains(p) && !t.left.contains(p)) {
                is = !is;
            } else {
                List<Pair> free = frees.get(sortOf(t, p, is));
                int c = gone(t, free);
                if (c == free.size()) {
                    is = !is;
                } else if (c > 0) {
                    is = openAre;
                }
            }
            if (is) {
                net.add(p);
            }
        }
        if (kind == 3) {
            int[] far = new int[n];
            Arrays.fill(far, n);
            far[a] = 0;
            for (int round = 0; round < n; round++) {
                for (Pair p : net) {
                    far[p.a] = Math.min(far[p.a], far[p.b] + 1);
                    far[p.b] = Math.min(far[p.b], far[p.a] + 1);
                }
            }
            return Math.min(n, far[b]);
        }
        int count = 0;
        if (kind == 4) {
            for (int c = 0; c < n; c++) {
                if (c != a && c != b && net.contains(Pair.of(a, c)) && net.contains(Pair.of(b, c))) {
                    count++;
                }
            }
            return count;
        }
        for (Pair p : net) {
            if (!p.has(a) && net.contains(Pair.of(a, p.a)) && net.contains(Pair.of(a, p.b))) {
                count++;
            }
        }
        return count;
    }

    private int off(T t, int kind, int a, int b) {
        return answer(t, kind, a, b, true) - answer(t, kind, a, b, false);
    }

    public int ask(int t, int kind, int a, int b, boolean most) {
        return no(t) || !question(kind, a, b) ? NONE : answer(tellings.get(t), kind, a, b, most);
    }

    public int mean(int t, int kind, int a, int b) {
        if (no(t) || !question(kind, a, b) || kind > 2) {
            return NONE;
        }
        T x = tellings.get(t);
        Set<Pair> set = asked(kind, a, b);
        int sum = 0;
        for (Map.Entry<Sort, List<Pair>> e : frees(x).entrySet()) {
            List<Pair> hit = new ArrayList<>(e.getValue());
            hit.retainAll(set);
            int r = hit.size();
            if (r > 0) {
                int that = (int) Math.floor(1000.0 * gone(x, e.getValue()) * r / e.getValue().size() + 1e-9);
                sum += e.getKey().said ? 1000 * r - that : that;
            }
        }
        Set<Pair> said = said(x);
        for (Pair p : x.excepts) {
            if (!x.left.contains(p) && set.contains(p) && !said.contains(p)) {
                sum += 1000;
            }
        }
        return sum;
    }

    private List<Integer> ledTo(T t, int kind, int a, int b) {
        List<Integer> led = new ArrayList<>();
        int k = 0;
        for (Pair p : t.excepts) {
            if (t.left.contains(p)) {
                T besides = t.copy();
                besides.left.remove(p);
                if (off(besides, kind, a, b) < off(t, kind, a, b)) {
                    led.add(k);
                }
            }
            k++;
        }
        return led;
    }

    public int leads(int t, int kind, int a, int b) {
        return no(t) || !question(kind, a, b) ? NONE : ledTo(tellings.get(t), kind, a, b).size();
    }

    public int led(int t, int kind, int a, int b, int i) {
        if (no(t) || !question(kind, a, b)) {
            return NONE;
        }
        List<Integer> led = ledTo(tellings.get(t), kind, a, b);
        return i < 0 || i >= led.size() ? NONE : led.get(i);
    }

    public int reader(int kind, int a, int b, int weight) {
        if (questions.size() == 10 || !question(kind, a, b) || weight < 1 || weight > 9) {
            return NONE;
        }
        questions.add(new Question(kind, a, b, weight));
        return questions.size() - 1;
    }

    private int harmOf(T t) {
        int harm = 0;
        for (Question q : questions) {
            harm += q.weight * off(t, q.kind, q.a, q.b);
        }
        return harm;
    }

    public int harm(int t) {
        return no(t) ? NONE : harmOf(tellings.get(t));
    }

    public int serve(int t, int length) {
        if (no(t)) {
            return NONE;
        }
        T x = tellings.get(t);
        List<Pair> excepts = new ArrayList<>(x.excepts);
        if (excepts.size() <= 9) {
            T best = null;
            int[] bestKey = null;
            for (int set = 0; set < 1 << excepts.size(); set++) {
                T y = x.copy();
                y.left.clear();
                for (int k = 0; k < excepts.size(); k++) {
                    if ((set >> k & 1) == 0) {
                        y.left.add(excepts.get(k));
                    }
                }
                int[] key = {harmOf(y), lengthOf(y), set};
                if (key[1] <= length && (best == null || Arrays.compare(key, bestKey) < 0)) {
                    best = y;
                    bestKey = key;
                }
            }
            if (best == null) {
                return -2;
            }
            tellings.set(t, best);
            return bestKey[0];
        }
        T y = x.copy();
        y.left.addAll(excepts);
        if (lengthOf(y) > length) {
            return -2;
        }
        while (true) {
            T best = null;
            int was = harmOf(y);
            for (Pair p : excepts) {
                if (y.left.contains(p)) {
                    T z = y.copy();
                    z.left.remove(p);
                    if (lengthOf(z) <= length && harmOf(z) < (best == null ? was : harmOf(best))) {
                        best = z;
                    }
                }
            }
            if (best == null) {
                tellings.set(t, y);
                return was;
            }
            y = best;
        }
    }

    // ---- alike ones, days, order, chance

    public int rounds() {
        coarsestBoxes();
        return rounds;
    }

    private static int boxIn(List<List<Integer>> boxes, int p) {
        for (int b = 0; b < boxes.size(); b++) {
            if (boxes.get(b).contains(p)) {
                return b;
            }
        }
        return NONE;
    }

    public int coarsest(int p) {
        return post(p) ? boxIn(coarsestBoxes(), p) : NONE;
    }

    public int nearly(int k, int p) {
        if (k < 0 || k > 14 || !post(p)) {
            return NONE;
        }
        Set<Pair> net = now();
        List<List<Integer>> boxes = new ArrayList<>();
        for (int x = 0; x < n; x++) {
            List<Integer> into = null;
            for (List<Integer> b : boxes) {
                boolean all = true;
                for (int y : b) {
                    int unlike = 0;
                    for (int z = 0; z < n; z++) {
                        if (z != x && z != y && net.contains(Pair.of(x, z)) != net.contains(Pair.of(y, z))) {
                            unlike++;
                        }
                    }
                    all = all && marks[x] == marks[y] && unlike <= k;
                }
                if (all && into == null) {
                    into = b;
                }
            }
            if (into == null) {
                into = new ArrayList<>();
                boxes.add(into);
            }
            into.add(x);
        }
        return boxIn(boxes, p);
    }

    public int mend(int t) {
        if (no(t)) {
            return NONE;
        }
        T x = tellings.get(t);
        Set<Pair> net = now();
        boolean was = builds(x).equals(net);
        T y = x.copy();
        y.left.clear();
        y.excepts = new TreeSet<>(xor(said(x), net));
        T z = byRule(rulesParting(net), net);
        boolean shorter = lengthOf(z) < lengthOf(y);
        tellings.set(t, shorter ? z : y);
        return shorter ? 2 : was ? 0 : 1;
    }

    private static Set<Object> alike(T t) {
        Set<Object> set = new HashSet<>();
        for (Word w : t.words) {
            set.add(alike(t, w));
        }
        return set;
    }

    private static Object alike(T t, Word w) {
        List<Integer> own = w.sort == 2 ? t.rows.get(w.two) : t.rows.get(w.one);
        Set<Integer> posts = new HashSet<>(own);
        switch (w.sort) {
            case 1:
                return List.of(1, Set.of(posts, new HashSet<>(t.rows.get(w.two))));
            case 2:
                return List.of(2, w.one, posts);
            case 3:
                List<Integer> turned = new ArrayList<>(own);
                Collections.reverse(turned);
                return List.of(3, Set.of(own, turned));
            default:
                return List.of(0, posts);
        }
    }

    public int broken(int t, int u) {
        if (no(t) || no(u)) {
            return NONE;
        }
        Set<Object> other = alike(tellings.get(u));
        int count = 0;
        for (Word w : tellings.get(t).words) {
            if (!other.contains(alike(tellings.get(t), w))) {
                count++;
            }
        }
        return count;
    }

    private int lineSum = 0;

    private List<Integer> lineOf(T t) {
        int m = t.rows.size();
        int[][] between = new int[m][m];
        for (Pair p : builds(t)) {
            between[t.boxOf(p.a)][t.boxOf(p.b)]++;
        }
        List<Integer> best = new ArrayList<>();
        lineSum = Integer.MAX_VALUE;
        permute(m, new ArrayList<>(), between, best);
        return best;
    }

    private void permute(int m, List<Integer> line, int[][] between, List<Integer> best) {
        if (line.size() == m) {
            int sum = 0;
            for (int i = 0; i < m; i++) {
                for (int j = 0; j < m; j++) {
                    sum += Math.abs(i - j) * between[line.get(i)][line.get(j)];
                }
            }
            if (sum < lineSum) {
                lineSum = sum;
                best.clear();
                best.addAll(line);
            }
            return;
        }
        for (int b = 0; b < m; b++) {
            if (!line.contains(b)) {
                line.add(b);
                permute(m, line, between, best);
                line.remove(line.size() - 1);
            }
        }
    }

    public int line(int t) {
        if (no(t)) {
            return NONE;
        }
        if (tellings.get(t).rows.size() > 8) {
            return -2;
        }
        lineOf(tellings.get(t));
        return lineSum;
    }

    public int at(int t, int i) {
        if (no(t) || tellings.get(t).rows.size() > 8 || i < 0 || i >= tellings.get(t).rows.size()) {
            return NONE;
        }
        return lineOf(tellings.get(t)).get(i);
    }

    private int[] sentenceOf(T t, int i) {
        Set<Pair> net = builds(t);
        Set<Pair> ahead = new HashSet<>();
        Set<Integer> told = new HashSet<>();
        int[] latestOne = {NONE, -100000};
        for (int step = 0; step <= i; step++) {
            if (told.size() == t.words.size()) {
                return new int[] {NONE, -100000};
            }
            latestOne = new int[] {NONE, Integer.MIN_VALUE};
            for (int k = 0; k < t.words.size(); k++) {
                if (!told.contains(k)) {
                    int s = spared(t, t.words.get(k), net, ahead, t.rows.size());
                    if (s > latestOne[1]) {
                        latestOne = new int[] {k, s};
                    }
                }
            }
            told.add(latestOne[0]);
            ahead.addAll(says(t, t.words.get(latestOne[0])));
        }
        return latestOne;
    }

    public int sentence(int t, int i) {
        return no(t) || i < 0 ? NONE : sentenceOf(tellings.get(t), Math.min(i, 1000))[0];
    }

    public int spares(int t, int i) {
        return no(t) || i < 0 ? -100000 : sentenceOf(tellings.get(t), Math.min(i, 1000))[1];
    }

    public int compare(int d, int e, int what) {
        if (!day(d) || !day(e) || what < 0 || what > 2) {
            return NONE;
        }
        Set<Pair> x = netOf(what == 2 ? e : d);
        Set<Pair> y = netOf(what == 2 ? d : e);
        if (what == 0) {
            x.retainAll(y);
        } else {
            x.removeAll(y);
        }
        return x.size();
    }

    private static int lot(int seed, int which, int k) {
        int h = seed;
        for (int it : new int[] {5, which}) {
            h = (h ^ it) * 1103515245 + 12345;
            h ^= h >>> 15;
        }
        return (h >>> 1) % k;
    }

    private TreeSet<Pair> chanceNet(int seed) {
        TreeSet<Pair> net = now();
        int count = net.size();
        for (int k = 0; k < 4 * count; k++) {
            List<Pair> list = new ArrayList<>(net);
            Pair ab = list.get(lot(seed, 2 * k, count));
            int half = lot(seed, 2 * k + 1, 2 * count);
            Pair cd = list.get(half / 2);
            int c = half % 2 == 0 ? cd.a : cd.b;
            int d = half % 2 == 0 ? cd.b : cd.a;
            if (new HashSet<>(List.of(ab.a, ab.b)).size() + 2 == new TreeSet<>(List.of(ab.a, ab.b, c, d)).size()
                    && !net.contains(Pair.of(ab.a, d)) && !net.contains(Pair.of(c, ab.b))) {
                net.remove(ab);
                net.remove(cd);
                net.add(Pair.of(ab.a, d));
                net.add(Pair.of(c, ab.b));
            }
        }
        return net;
    }

    public int odds(int t, int seed, int k) {
        if (no(t) || k < 1 || k > 40) {
            return NONE;
        }
        List<List<Integer>> boxes = tellings.get(t).rows;
        int own = lengthOf(byRule(boxes, now()));
        int count = 0;
        for (int i = 0; i < k; i++) {
            if (lengthOf(byRule(boxes, chanceNet(seed + i))) <= own) {
                count++;
            }
        }
        return count;
    }

    public int chance(int seed, int a, int b) {
        return !two(a, b) ? NONE : chanceNet(seed).contains(Pair.of(a, b)) ? 1 : 0;
    }

    public int count(int what) {
        if (what >= 10 && what < 40 && what % 10 < tellings.size()) {
            T t = tellings.get(what % 10);
            return what < 20 ? t.rows.size() : what < 30 ? t.words.size() : t.excepts.size();
        }
        switch (what) {
            case 0:
                return n;
            case 1:
                return now().size();
            case 2:
                return today;
            case 3:
                return changes.size();
            case 4:
                return tellings.size();
            case 5:
                return questions.size();
            case 6:
                return tape.length();
            default:
                return NONE;
        }
    }
}
