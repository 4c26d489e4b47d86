import java.util.HashSet;
import java.util.Set;

/** Promises 35 to 43, 45 and 46 and section V of the terms at their edges: each method is about one sentence. */
public final class OrderEdges {
    private static final Check C = new Check();
    private static final int LOW = Integer.MIN_VALUE;
    private static final int HIGH = Integer.MAX_VALUE;

    public static void main(String[] args) {
        untilNoneParts();
        marksFirst();
        atMostSoMany();
        nearlyElse();
        ifShorter();
        eitherEnd();
        alikeWords();
        lineOfEight();
        firstLine();
        firstSentence();
        sparesOfTheRest();
        chanceTimes();
        chanceOfFour();
        halves();
        lotsWrap();
        rounds();
        coarsestOfNone();
        nearlyOfNone();
        mends();
        mendNone();
        brokenNone();
        lineRefused();
        atRefused();
        sentenceRefused();
        sparesRefused();
        oddsOfSeeds();
        oddsNotLonger();
        oddsRefused();
        chanceRefused();
        C.finish("OrderEdges");
    }

    private static ToldNet path(int n) {
        ToldNet x = Check.net(n);
        for (int p = 0; p + 1 < n; p++) {
            x.tie(p, p + 1, true);
        }
        return x;
    }

    private static ToldNet some() {
        ToldNet x = Check.net(4, 0, 1, 1, 2, 2, 3);
        x.make(1);
        x.make(0);
        x.leave(1, 1, true);
        Check.read(x, "box a 0 1;box b 2 3;crowd a;crowd b;sides a b;not 0 2;not 0 3;not 1 3;");
        x.reader(1, 0, 0, 2);
        return x;
    }

    private static void untilNoneParts() {
        C.terms("V", "in each round those of one BOX stay together that have as many TIES into each BOX; until a round parts none: THE "
            + "COARSEST.");
        for (int n = 2; n <= 16; n++) {
            ToldNet x = path(n);
            C.due("a path of " + n, x.rounds(), (n + 1) / 2 - 1);
            for (int p = 0; p < n; p++) {
                C.due("from either end " + p, x.coarsest(p), Math.min(p, n - 1 - p));
            }
            C.due("no ties", Check.net(n).rounds(), 0);
            C.due("all ties", Check.full(n).rounds(), 0);
            C.due("all together", Check.full(n).coarsest(n - 1), 0);
        }
    }

    private static void marksFirst() {
        C.terms("V", "first POSTS of one MARK are together");
        ToldNet x = Check.net(16);
        for (int p = 0; p < 16; p++) {
            x.mark(p, 3 - p % 4);
        }
        C.due("marks part without a round", x.rounds(), 0);
        for (int p = 0; p < 16; p++) {
            C.due("by marks " + p, x.coarsest(p), p % 4);
        }
        x.tie(14, 15, true);
        C.due("then by ties", x.rounds(), 1);
        C.due("14", x.coarsest(14), 4);
        C.due("15", x.coarsest(15), 5);
        // the marked end of a path of four: both ends in round 1, then no more
        ToldNet y = path(4);
        y.mark(0, 1);
        C.due("a marked path", y.rounds(), 1);
        C.due("each alone", y.coarsest(3), 3);
    }

    private static void atMostSoMany() {
        C.terms("V", "a TIE where it has none (or none where it has one) with at most k of the POSTS other than these two");
        for (int unlike = 0; unlike <= 14; unlike++) {
            for (int both = 0; both < 2; both++) {
                // post 0 has ties with that many posts, of which post 1 has none; a tie of the two does not count
                ToldNet x = Check.net(16);
                for (int p = 2; p < 2 + unlike; p++) {
                    x.tie(p % 2, p, true);
                }
                if (both == 1) {
                    x.tie(0, 1, true);
                }
                for (int k = 0; k <= 14; k++) {
                    C.due(unlike + " unlike, k " + k, x.nearly(k, 1), unlike <= k ? 0 : 1);
                }
            }
        }
    }

    private static void nearlyElse() {
        C.terms("V", "POST by POST it goes into the first BOX (as they were begun) all of whose POSTS have its MARK");
        ToldNet x = Check.net(4);
        for (int k = 0; k <= 14; k++) {
            C.due("without ties, k " + k, x.nearly(k, 3), 0);
        }
        x.mark(1, 1);
        x.mark(2, 1);
        int[] due = {0, 1, 1, 0};
        for (int p = 0; p < 4; p++) {
            C.due("by marks " + p, x.nearly(14, p), due[p]);
        }
        for (int v = 0; v <= 3; v++) {
            x.mark(v, v);
        }
        C.due("four marks", x.nearly(14, 3), 3);
        // 2 is near 1 but not 0, so it begins a box; 3 is near both boxes and goes into the first
        ToldNet y = Check.net(8, 0, 4, 0, 5, 1, 5, 1, 6, 2, 6, 2, 7, 3, 5, 3, 6);
        // 0: 4 5, 1: 5 6, 2: 6 7, 3: 5 6
        int[] boxes = {0, 0, 1, 0};
        for (int p = 0; p < 4; p++) {
            C.due("near all of a box " + p, y.nearly(2, p), boxes[p]);
        }
        C.due("near enough with k 4", y.nearly(4, 2), 0);
    }

    private static void ifShorter() {
        C.terms("V", "BOXES, ROWS, WORDS stay, EXCEPTS are anew, none LEFT OUT; if a TELLING by THE RULE is shorter, it becomes that.");
        // all in one with an also is 27 bits, as THE RULE's two boxes are: it stays
        ToldNet x = Check.net(5, 0, 1);
        x.make(1);
        C.due("as long: it stays", x.mend(0), 0);
        C.due("one box", x.count(10), 1);
        ToldNet y = Check.net(5);
        y.make(1);
        y.tie(0, 1, true);
        C.due("mended, as long as the rule's", y.mend(0), 1);
        C.due("one box", y.count(10), 1);
        C.due("its length", y.length(0), 27);
        // each alone is longer
        y.make(0);
        C.due("longer", y.mend(1), 2);
        C.due("the rule's boxes", y.count(11), 2);
        C.due("its length", y.length(1), 27);
        // four bits longer by a word told besides: a chain of three alike posts that spares none
        ToldNet z = Check.full(3);
        Check.read(z, "box a 2 1 0;crowd a;");
        C.due("as long", z.mend(0), 0);
        C.due("its row stays", z.row(0, 0, 0), 2);
        Check.read(z, "box a 2 1 0;crowd a;chain a;");
        C.due("four bits longer", z.mend(1), 2);
        C.due("the rule's row", z.row(1, 0, 0), 0);
        // excepts anew: a not goes, an also comes, one left out is told
        ToldNet w = some();
        w.leave(2, 0, true);
        w.tie(1, 3, true);
        w.tie(1, 2, false);
        w.leave(0, 0, true);
        C.due("mended", w.mend(0) > 0, true);
        C.due("it builds the net", w.unlike(0, 0), 0);
        for (int k = 0; k < w.count(30); k++) {
            C.due("told", w.except(0, k, 3), 0);
        }
    }

    private static void eitherEnd() {
        C.terms("V", "a CHAIN: the same ROW, from either end");
        ToldNet x = Check.net(4);
        Check.read(x, "box a 0 1 2 3;chain a;");
        String[] rows = {"3 2 1 0", "1 0 2 3", "0 1 3 2", "0 1 2 3"};
        int[] due = {0, 1, 1, 0};
        for (int i = 0; i < 4; i++) {
            Check.read(x, "box q " + rows[i] + ";chain q;");
            C.due("row " + rows[i], x.broken(0, 1), due[i]);
            C.due("and back", x.broken(1, 0), due[i]);
            x.drop();
        }
        ToldNet two = Check.net(2);
        Check.read(two, "box a 0 1;chain a;");
        Check.read(two, "box a 1 0;chain a;");
        C.due("of two posts", two.broken(0, 1), 0);
    }

    private static void alikeWords() {
        C.terms("V", "BROKEN between two TELLINGS: WORDS of the first one that the other one has not (alike: the same sort, of the same POSTS; "
            + "a STAR: its POST, too");
        ToldNet x = Check.net(4);
        Check.read(x, "box a 0 1;box b 2 3;crowd a;chain b;star 0 b;sides a b;");
        String[] others = {"box y 3 2;box z 1 0;sides z y;star 0 y;chain y;crowd z;", "box a 0 1;box b 2 3;star 1 b;",
            "box a 0 1;box b 2 3;star 0 a;", "box a 0 1;box b 2 3;chain a;crowd b;", "box a 0 1;box b 2 3;",
            "box a 0 1;box b 2;box c 3;crowd a;sides a b;sides a c;star 0 b;", "box a 0 1 2 3;crowd a;star 0 a;"};
        int[] broken = {0, 4, 4, 4, 4, 3, 4};
        int[] back = {0, 1, 1, 2, 0, 3, 2};
        for (int i = 0; i < others.length; i++) {
            C.due("reads", Check.read(x, others[i]), 0);
            C.due("from the first to " + others[i], x.broken(0, 1), broken[i]);
            C.due("back from " + others[i], x.broken(1, 0), back[i]);
            x.drop();
        }
    }

    private static void lineOfEight() {
        C.terms("V", "A LINE of BOXES of a TELLING (8 at most)");
        for (int n = 2; n <= 16; n++) {
            ToldNet x = path(n);
            x.make(0);
            C.due("boxes " + n, x.line(0), n <= 8 ? n - 1 : -2);
            for (int i = -1; i <= n; i++) {
                C.due("place " + i + " of " + n, x.at(0, i), n <= 8 && i >= 0 && i < n ? i : -1);
            }
            x.make(1);
            C.due("one box of " + n, x.line(1), 0);
            C.due("its only place", x.at(1, 0), 0);
            C.due("no other place", x.at(1, 1), -1);
        }
        // sixteen posts in eight boxes, and in nine
        ToldNet x = Check.full(16);
        x.make(0);
        for (int left = 15; left >= 8; left--) {
            C.due("boxes", x.line(0), -2);
            x.together(0, 0, 1);
        }
        // box 0 has nine posts: 9 ties to each of seven boxes of one, these among themselves 7 * 8 * 6 / 6
        C.due("eight boxes", x.count(10), 8);
        C.due("laid: box 0 in the middle", x.line(0), 9 * (1 + 2 + 3 + 1 + 2 + 3 + 4) + sumOf(8) - (1 + 2 + 3 + 1 + 2 + 3 + 4));
    }

    /** How many places apart all two of m in a line are, in sum. */
    private static int sumOf(int m) {
        int sum = 0;
        for (int i = 0; i < m; i++) {
            for (int j = i + 1; j < m; j++) {
                sum += j - i;
            }
        }
        return sum;
    }

    private static void order(ToldNet x, int t, int sum, int... due) {
        C.due("sum", x.line(t), sum);
        for (int i = 0; i < due.length; i++) {
            C.due("place " + i, x.at(t, i), due[i]);
        }
        C.due("behind the last", x.at(t, due.length), -1);
    }

    private static void firstLine() {
        C.terms("V", "of these the first by numbers");
        ToldNet none = Check.net(8);
        none.make(0);
        order(none, 0, 0, 0, 1, 2, 3, 4, 5, 6, 7);
        ToldNet full = Check.full(8);
        full.make(0);
        order(full, 0, sumOf(8), 0, 1, 2, 3, 4, 5, 6, 7);
        ToldNet ring = Check.net(4, 0, 1, 1, 2, 2, 3, 3, 0);
        ring.make(0);
        order(ring, 0, 6, 0, 1, 2, 3);
        ToldNet hub = Check.net(3, 0, 1, 0, 2);
        hub.make(0);
        order(hub, 0, 2, 1, 0, 2);
        ToldNet turned = Check.net(4, 3, 0, 0, 2, 2, 1);
        turned.make(0);
        order(turned, 0, 3, 1, 2, 0, 3);
        // what it builds, not THE NET, and no ties of one box
        ToldNet told = Check.net(4, 0, 1);
        Check.read(told, "box a 0 1;box b 2;box c 3;crowd a;sides b c;also 1 3;");
        order(told, 0, 2, 0, 2, 1);
    }

    private static void firstSentence() {
        C.terms("V", "its WORDS one by one, always that of those left which SPARES most (by the NET that it BUILDS, of pairs no sentence ahead "
            + "says), the first of alike ones.");
        ToldNet x = Check.net(8);
        Check.read(x, "box a 0 1;box b 2 3;box c 4 5;box d 6 7;crowd d;crowd c;crowd b;crowd a;chain b;");
        int[] due = {0, 1, 2, 3, 4};
        int[] spare = {3, 3, 3, 3, -5};
        for (int i = 0; i < 5; i++) {
            C.due("sentence " + i, x.sentence(0, i), due[i]);
            // E 8 less 3 + 2; the chain of b says nothing more
            C.due("spares " + i, x.spares(0, i), spare[i]);
        }
        // a not makes the first one spare less
        Check.read(x, "box a 0 1;box b 2 3;box c 4 5;box d 6 7;crowd d;crowd c;crowd b;crowd a;not 0 1;not 5 4;");
        int[] then = {1, 3, 0, 2};
        for (int i = 0; i < 4; i++) {
            C.due("sentence " + i, x.sentence(1, i), then[i]);
            C.due("spares " + i, x.spares(1, i), i < 2 ? 3 : -13);
        }
        // left out or told, it builds the same
        x.leave(1, 0, true);
        C.due("left out", x.spares(1, 2), -13);
        // forty words, each once
        StringBuilder text = new StringBuilder();
        for (int b = 0; b < 8; b++) {
            text.append("box ").append((char) ('a' + b)).append(' ').append(2 * b).append(' ').append(2 * b + 1).append(';');
        }
        for (int b = 0; b < 8; b++) {
            text.append("crowd ").append((char) ('a' + b)).append(';').append("chain ").append((char) ('a' + b)).append(';');
        }
        for (int p = 0; p < 8; p++) {
            for (int i = 0; i < 3; i++) {
                text.append("star ").append(p).append(' ').append((char) ('d' + i)).append(';');
            }
        }
        ToldNet most = Check.net(16);
        C.due("reads", Check.read(most, text.toString()), 0);
        Set<Integer> told = new HashSet<>();
        int was = HIGH;
        for (int i = 0; i < 40; i++) {
            told.add(most.sentence(0, i));
            int own = most.spares(0, i);
            C.due("never more than the one ahead of it", own <= was, true);
            was = own;
        }
        C.due("each once", told.size(), 40);
        C.due("no 41st", most.sentence(0, 40), -1);
        C.due("no 41st", most.spares(0, 40), -100000);
    }

    private static void sparesOfTheRest() {
        C.terms("V", "of pairs no sentence ahead says");
        ToldNet x = Check.net(4);
        Check.read(x, "box a 0 1 2 3;crowd a;star 0 a;chain a;");
        int[] word = {0, 2, 1};
        int[] spare = {6 * 6 - 4, -4, -6};
        for (int i = 0; i < 3; i++) {
            C.due("sentence " + i, x.sentence(0, i), word[i]);
            C.due("spares " + i, x.spares(0, i), spare[i]);
        }
        // the star of three pairs, then the chain of the two of its three that are left
        Check.read(x, "box a 0 1 2 3;star 0 a;chain a;");
        C.due("star", x.sentence(1, 0), 1);
        C.due("chain of three", x.spares(1, 0), 18 - 4);
        C.due("star of two", x.spares(1, 1), 12 - 6);
        // the least a word can spare is far above what tells none
        StringBuilder text = new StringBuilder("box a 0 1 2 3 4 5 6 7;box b 8 9 10 11 12 13 14 15;sides a b;");
        for (int a = 0; a < 8; a++) {
            for (int b = 8; b < 16; b++) {
                text.append("not ").append(a).append(' ').append(b).append(';');
            }
        }
        ToldNet nots = Check.net(16);
        C.due("reads", Check.read(nots, text.toString()), 0);
        C.due("all nots", nots.spares(0, 0), -640 - 5);
    }

    /** A net made by chance, told from the document once more: ties as a table. */
    private static boolean[][] chanced(int n, int[] ends, int seed) {
        boolean[][] is = new boolean[n][n];
        for (int i = 0; i < ends.length; i += 2) {
            is[ends[i]][ends[i + 1]] = true;
            is[ends[i + 1]][ends[i]] = true;
        }
        int ties = ends.length / 2;
        for (int k = 0; k < 4 * ties; k++) {
            int[] ab = numbered(is, lot(seed, 2 * k, ties));
            int half = lot(seed, 2 * k + 1, 2 * ties);
            int[] cd = numbered(is, half / 2);
            int a = ab[0];
            int b = ab[1];
            int c = cd[half % 2];
            int d = cd[1 - half % 2];
            Set<Integer> four = new HashSet<>();
            four.add(a);
            four.add(b);
            four.add(c);
            four.add(d);
            if (four.size() == 4 && !is[a][d] && !is[c][b]) {
                is[a][b] = is[b][a] = is[c][d] = is[d][c] = false;
                is[a][d] = is[d][a] = is[c][b] = is[b][c] = true;
            }
        }
        return is;
    }

    private static int[] numbered(boolean[][] is, int k) {
        int left = k;
        for (int a = 0; a < is.length; a++) {
            for (int b = a + 1; b < is.length; b++) {
                if (is[a][b]) {
                    if (left == 0) {
                        return new int[] {a, b};
                    }
                    left--;
                }
            }
        }
        return new int[] {0, 0};
    }

    private static int lot(int seed, int which, int n) {
        int h = seed;
        for (int it : new int[] {5, which}) {
            h = (h ^ it) * 1103515245 + 12345;
            h = h ^ h >>> 15;
        }
        return (h >>> 1) % n;
    }

    private static void chancesAlike(int n, int seed, int... ends) {
        boolean[][] due = chanced(n, ends, seed);
        ToldNet x = Check.net(n, ends);
        for (int a = 0; a < n; a++) {
            for (int b = a + 1; b < n; b++) {
                C.due("seed " + seed + ", of " + n + ": " + a + " " + b, x.chance(seed, a, b), due[a][b] ? 1 : 0);
            }
        }
        C.due("THE NET stays", x.count(1), ends.length / 2);
        C.due("no changes", x.count(3), ends.length / 2);
    }

    private static void chanceTimes() {
        C.terms("V", "CHANCE: a net made of THE NET by a SEED: 4 * TIES times");
        for (int n = 2; n <= 16; n++) {
            ToldNet none = Check.net(n);
            ToldNet full = Check.full(n);
            for (int seed : new int[] {0, 1, LOW, HIGH}) {
                C.due("no ties: none", none.chance(seed, 0, n - 1), 0);
                C.due("all ties: all", full.chance(seed, n - 1, 0), 1);
            }
        }
        int[] ring = {0, 1, 1, 2, 2, 3, 3, 4, 4, 5, 5, 6, 6, 7, 7, 0};
        for (int seed = 0; seed < 8; seed++) {
            chancesAlike(8, seed, ring);
        }
    }

    private static void chanceOfFour() {
        C.terms("V", "if a, b, c, d are four POSTS and a d, c b are no TIES, they are in place of a b, c d.");
        for (int seed = 0; seed < 4; seed++) {
            // three posts: never four; a path of four: b c is a tie of both; two ties of four posts: always
            ToldNet three = Check.net(3, 0, 1, 1, 2);
            C.due("three posts stay", three.chance(seed, 0, 1) + three.chance(seed, 1, 2), 2);
            ToldNet hub = Check.net(6, 3, 0, 3, 1, 3, 2, 3, 4, 3, 5);
            C.due("a hub stays", hub.chance(seed, 3, 0) + hub.chance(seed, 3, 5), 2);
            chancesAlike(4, seed, 0, 1, 2, 3);
            chancesAlike(4, seed, 0, 1, 1, 2, 2, 3);
            chancesAlike(4, seed, 0, 1, 1, 2, 2, 3, 3, 0);
            chancesAlike(5, seed, 0, 1, 0, 2, 1, 2, 3, 4);
        }
        chancesAlike(16, 77, 0, 15, 1, 14, 2, 13, 3, 12, 4, 11, 5, 10, 6, 9, 7, 8, 0, 1, 14, 15);
    }

    private static void halves() {
        C.terms("V", "which 2 * k + 1 of twice so many: its half (rounded down): c d, if it is odd d c");
        // the first change of two ties of four posts: 0 1 and 2 3 become 0 3 and 1 2, if it is odd 0 2 and 1 3
        for (int seed = 0; seed < 30; seed++) {
            chancesAlike(4, seed, 0, 1, 2, 3);
            chancesAlike(6, seed, 0, 1, 2, 3, 4, 5);
        }
        C.terms("V", "LOT which 2 * k of so many as there are: a b");
        // one tie alone: of one there is but one lot
        for (int n = 2; n <= 16; n++) {
            C.due("one tie of " + n, Check.net(n, n - 2, n - 1).chance(n, n - 1, n - 2), 1);
        }
    }

    private static void lotsWrap() {
        C.terms("V", "the rest of h, moved 1 bit down likewise, by n (32 bits that wrap).");
        for (int seed : new int[] {LOW, LOW + 1, -2, -1, 0, 1, 4, 5, 6, HIGH - 1, HIGH, 1103515245, 12345, 1 << 16, 0x55555555}) {
            chancesAlike(7, seed, 0, 1, 1, 2, 2, 3, 3, 4, 4, 5, 5, 6, 6, 0, 0, 3);
        }
    }

    private static void rounds() {
        C.promise(35, "How many ROUNDS part some, up to THE COARSEST.");
        C.due("of a new object", new ToldNet().rounds(), 0);
        C.due("of two with a tie", Check.net(2, 0, 1).rounds(), 0);
        C.due("of two marks", marked().rounds(), 0);
        C.due("one round", Check.net(3, 0, 1).rounds(), 1);
        C.due("the longest path", path(16).rounds(), 7);
        ToldNet x = some();
        String was = Check.state(x);
        C.due("two ends, two others", x.rounds(), 1);
        C.due("all stays", Check.state(x), was);
    }

    private static ToldNet marked() {
        ToldNet x = Check.net(2, 0, 1);
        x.mark(1, 3);
        return x;
    }

    private static void coarsestOfNone() {
        C.promise(36, "The BOX of a POST in THE COARSEST (numbered by least POSTS); NONE: no such one.");
        C.refused(OrderEdges::some, -1, x -> x.coarsest(-1), x -> x.coarsest(4), x -> x.coarsest(16), x -> x.coarsest(LOW),
            x -> x.coarsest(HIGH));
        int[] due = {0, 1, 1, 0};
        for (int p = 0; p < 4; p++) {
            C.due("box of " + p, some().coarsest(p), due[p]);
        }
        C.due("the last of sixteen", path(16).coarsest(15), 0);
        C.due("the highest box", path(16).coarsest(8), 7);
    }

    private static void nearlyOfNone() {
        C.promise(37, "The BOX of a POST by NEARLY k (0 .. 14); NONE: no such ones.");
        C.refused(OrderEdges::some, -1, x -> x.nearly(-1, 0), x -> x.nearly(15, 0), x -> x.nearly(0, -1), x -> x.nearly(0, 4),
            x -> x.nearly(LOW, 0), x -> x.nearly(HIGH, 0), x -> x.nearly(14, LOW), x -> x.nearly(14, HIGH), x -> x.nearly(16, 16));
        C.due("k 0", some().nearly(0, 3), 3);
        C.due("k 14", some().nearly(14, 3), 0);
    }

    private static void mends() {
        C.promise(38, "0 it BUILT THE NET already and THE RULE is not shorter (EXCEPTS are all told then), 1 mended, 2 made anew by THE RULE");
        ToldNet x = some();
        // all in one, a chain: 16 bits, as THE RULE has it
        C.due("it built it", x.mend(0), 0);
        C.due("words stay", x.count(20), 1);
        // each alone, three alsos: it built it, but THE RULE is shorter
        C.due("shorter", x.mend(1), 2);
        C.due("as THE RULE", x.length(1), 16);
        ToldNet y = Check.net(4, 0, 1, 1, 2, 2, 3);
        y.make(1);
        y.tie(0, 3, true);
        y.tie(0, 3, false);
        y.tie(0, 1, false);
        C.due("one not", y.mend(0), 1);
        C.due("it builds THE NET", y.unlike(0, 0), 0);
        y.leave(0, 0, true);
        C.due("it built it, though one was left out", y.mend(0), 0);
        C.due("told then", y.except(0, 0, 3), 0);
        ToldNet five = some();
        five.make(0);
        five.make(0);
        C.due("with five there", five.mend(4), 2);
        C.due("still five", five.count(4), 5);
    }

    private static void mendNone() {
        C.promise(38, "NONE: no such one.");
        C.refused(OrderEdges::some, -1, x -> x.mend(3), x -> x.mend(-1), x -> x.mend(LOW), x -> x.mend(HIGH), x -> x.mend(5));
        C.due("no tellings", new ToldNet().mend(0), -1);
    }

    private static void brokenNone() {
        C.promise(39, "How many WORDS are BROKEN from one TELLING to another one; NONE: no such ones.");
        C.refused(OrderEdges::some, -1, x -> x.broken(0, 3), x -> x.broken(3, 0), x -> x.broken(-1, 0), x -> x.broken(0, -1),
            x -> x.broken(LOW, 0), x -> x.broken(0, HIGH), x -> x.broken(3, 3));
        ToldNet x = some();
        int[][] due = {{0, 1, 1}, {0, 0, 0}, {3, 3, 0}};
        for (int t = 0; t < 3; t++) {
            for (int u = 0; u < 3; u++) {
                C.due("from " + t + " to " + u, x.broken(t, u), due[t][u]);
            }
        }
    }

    private static ToldNet nine() {
        ToldNet x = Check.net(9, 0, 1);
        x.make(0);
        x.make(1);
        return x;
    }

    private static void lineRefused() {
        C.promise(40, "The sum of a LINE; -2: more than 8 BOXES; NONE: no such TELLING.");
        C.refused(OrderEdges::some, -1, x -> x.line(3), x -> x.line(-1), x -> x.line(LOW), x -> x.line(HIGH), x -> x.line(5));
        ToldNet x = nine();
        C.due("nine boxes", x.line(0), -2);
        C.due("one box", x.line(1), 0);
        C.due("no telling", x.line(2), -1);
        x.together(0, 0, 1);
        C.due("eight boxes", x.line(0), 0);
        x.apart(0, 0);
        C.due("nine boxes", x.line(0), -2);
    }

    private static void atRefused() {
        C.promise(41, "The BOX at the i-th place of it; NONE: not so many, more than 8 BOXES, no such TELLING.");
        C.refused(OrderEdges::some, -1, x -> x.at(0, 1), x -> x.at(0, -1), x -> x.at(1, 4), x -> x.at(2, 2), x -> x.at(2, -1),
            x -> x.at(3, 0), x -> x.at(-1, 0), x -> x.at(LOW, 0), x -> x.at(HIGH, 0), x -> x.at(1, LOW), x -> x.at(1, HIGH));
        ToldNet x = nine();
        for (int i = -1; i <= 9; i++) {
            C.due("of nine boxes, place " + i, x.at(0, i), -1);
        }
        // without a line() ahead, and of the telling that is asked, not of the one ahead
        ToldNet hub = Check.net(3, 0, 1, 0, 2);
        hub.make(0);
        int[] due = {1, 0, 2};
        for (int i = 0; i < 3; i++) {
            C.due("hub, place " + i, hub.at(0, i), due[i]);
        }
        hub.tie(0, 2, false);
        hub.tie(1, 2, true);
        hub.make(0);
        hub.line(0);
        C.due("path, place 1", hub.at(1, 1), 1);
        x.together(0, 0, 1);
        for (int i = -1; i <= 9; i++) {
            C.due("of eight boxes, place " + i, x.at(0, i), i < 8 ? i : -1);
        }
    }

    private static void sentenceRefused() {
        C.promise(42, "The WORD that is the i-th SENTENCE; NONE: not so many, no such TELLING.");
        C.refused(OrderEdges::some, -1, x -> x.sentence(0, 1), x -> x.sentence(0, -1), x -> x.sentence(1, 0), x -> x.sentence(2, 3),
            x -> x.sentence(3, 0), x -> x.sentence(-1, 0), x -> x.sentence(LOW, 0), x -> x.sentence(HIGH, 0),
            x -> x.sentence(2, LOW), x -> x.sentence(2, HIGH));
        for (int i = 0; i < 3; i++) {
            C.due("sentence " + i, some().sentence(2, i), i);
        }
    }

    private static void sparesRefused() {
        C.promise(43, "What it SPARES; -100000: not so many, no such TELLING.");
        C.refused(OrderEdges::some, -100000, x -> x.spares(0, 1), x -> x.spares(0, -1), x -> x.spares(1, 0), x -> x.spares(2, 3),
            x -> x.spares(3, 0), x -> x.spares(-1, 0), x -> x.spares(LOW, 0), x -> x.spares(HIGH, 0), x -> x.spares(2, LOW),
            x -> x.spares(2, HIGH));
        // crowds of a tie each; sides with one tie of four
        int[] due = {2, 2, -12 - 5};
        for (int i = 0; i < 3; i++) {
            C.due("spares " + i, some().spares(2, i), due[i]);
        }
    }

    private static ToldNet ring() {
        ToldNet x = Check.net(9);
        for (int p = 0; p < 9; p++) {
            x.tie(p, (p + 1) % 9, true);
        }
        x.make(1);
        return x;
    }

    private static void oddsOfSeeds() {
        C.promise(45, "Of k nets (1 .. 40) made by CHANCE by SEEDS seed, seed + 1, ..");
        ToldNet x = ring();
        for (int seed : new int[] {0, -20, HIGH - 19, LOW, HIGH}) {
            int sum = 0;
            for (int k = 1; k <= 40; k++) {
                sum += x.odds(0, seed + k - 1, 1);
                C.due("from " + seed + ", k " + k, x.odds(0, seed, k), sum);
            }
        }
    }

    private static void oddsNotLonger() {
        C.promise(45, "how many are, by the BOXES of a TELLING, WORDS BY THE RULE, not longer than THE NET likewise");
        // what chance makes of these is as long: they count
        ToldNet full = Check.full(6);
        full.make(0);
        C.due("all ties", full.odds(0, 1, 40), 40);
        ToldNet none = Check.net(6);
        none.make(1);
        C.due("no ties", none.odds(0, 1, 40), 40);
        ToldNet hub = Check.net(6, 0, 1, 0, 2, 0, 3, 0, 4, 0, 5);
        hub.make(1);
        C.due("a hub", hub.odds(0, 1, 40), 40);
        // two ties of four posts, boxes 0 1 and 2 3: what chance makes is as short if it is the same net
        int same = 0;
        for (int seed = 0; seed < 40; seed++) {
            same += chanced(4, new int[] {0, 1, 2, 3}, seed)[0][1] ? 1 : 0;
        }
        ToldNet two = Check.net(4, 0, 1, 2, 3);
        C.due("reads", Check.read(two, "box a 0 1;box b 2 3;"), 0);
        C.due("the same net alone", two.odds(0, 0, 40), same);
        C.due("some are not", same > 0 && same < 40, true);
        // by the boxes alone, whatever the telling tells
        Check.read(two, "box a 1 0;box b 3 2;sides a b;chain b;not 0 2;also 0 1;");
        C.due("by its boxes", two.odds(1, 0, 40), same);
    }

    private static void oddsRefused() {
        C.promise(45, "NONE: no such ones.");
        C.refused(OrderEdges::some, -1, x -> x.odds(0, 0, 0), x -> x.odds(0, 0, 41), x -> x.odds(0, 0, -1), x -> x.odds(3, 0, 1),
            x -> x.odds(-1, 0, 1), x -> x.odds(LOW, 0, 1), x -> x.odds(HIGH, 0, 1), x -> x.odds(0, 0, LOW), x -> x.odds(0, 0, HIGH));
        ToldNet x = some();
        String was = Check.state(x);
        C.due("one", x.odds(2, LOW, 1) >= 0, true);
        C.due("forty", x.odds(2, HIGH, 40) >= 0, true);
        C.due("all stays", Check.state(x), was);
    }

    private static void chanceRefused() {
        C.promise(46, "1 if a net made by CHANCE by a SEED has a TIE, else 0; NONE: no such POSTS, one and the same.");
        C.refused(OrderEdges::some, -1, x -> x.chance(0, 0, 0), x -> x.chance(0, 3, 3), x -> x.chance(0, 0, 4), x -> x.chance(0, 4, 0),
            x -> x.chance(0, -1, 0), x -> x.chance(0, 0, -1), x -> x.chance(HIGH, LOW, HIGH), x -> x.chance(LOW, 0, 32));
        ToldNet x = Check.net(2, 0, 1);
        C.due("one tie stays", x.chance(LOW, 1, 0), 1);
        x.tie(0, 1, false);
        C.due("none", x.chance(HIGH, 0, 1), 0);
    }
}
