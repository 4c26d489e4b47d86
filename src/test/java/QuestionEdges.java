/** Promises 26 to 34 and section IV of the terms at their edges: each method is about one sentence of the document. */
public final class QuestionEdges {
    private static final Check C = new Check();
    private static final int LOW = Integer.MIN_VALUE;
    private static final int HIGH = Integer.MAX_VALUE;
    /** The six pairs of four posts. */
    private static final String[] PAIRS = {"0 1", "0 2", "0 3", "1 2", "1 3", "2 3"};

    public static void main(String[] args) {
        sortsOfPairs();
        open();
        toldNever();
        sets();
        cutOfNoneAndAll();
        far();
        paths();
        trios();
        means();
        noneOfASort();
        readersQuestions();
        servedInSets();
        servedInSteps();
        nineOrTen();
        ledIfLess();
        leave();
        leaveRefused();
        sort();
        askAgain();
        askRefused();
        noMatter();
        meanRefused();
        leadsRefused();
        ledRefused();
        reader();
        readerRefused();
        harm();
        serve();
        serveTooShort();
        serveNone();
        C.finish("QuestionEdges");
    }

    /** Four posts in one box: k pairs are told otherwise than the box is, and left out. */
    private static ToldNet left(boolean said, int k) {
        ToldNet x = Check.net(4);
        StringBuilder text = new StringBuilder(said ? "box a 0 1 2 3;crowd a;" : "box a 0 1 2 3;");
        for (int i = 0; i < k; i++) {
            text.append(said ? "not " : "also ").append(PAIRS[i]).append(';');
        }
        C.due("reads", Check.read(x, text.toString()), 0);
        for (int i = 0; i < k; i++) {
            C.due("left out", x.leave(0, i, true), true);
        }
        return x;
    }

    private static void asks(String what, ToldNet x, int kind, int a, int b, int least, int most) {
        C.due(what + ", least", x.ask(0, kind, a, b, false), least);
        C.due(what + ", most", x.ask(0, kind, a, b, true), most);
    }

    private static void sortsOfPairs() {
        C.terms("II", "Of each SORT: R, its pairs without those that are EXCEPTS and told; C, its EXCEPTS LEFT OUT (some of these R).");
        for (int k = 0; k <= 6; k++) {
            ToldNet x = left(false, k);
            for (int out = k; out >= 0; out--) {
                C.due("R, " + out + " of " + k + " left out", x.sort(0, 2, 3, false, 0), 6 - k + out);
                C.due("C, " + out + " of " + k + " left out", x.sort(0, 2, 3, false, 1), out);
                C.due("none of it is said", x.sort(0, 2, 3, true, 0) + x.sort(0, 2, 3, true, 1), 0);
                x.leave(0, out - 1, false);
            }
        }
        // one pair of two boxes, one of a box: the least sorts there are
        ToldNet x = Check.net(3);
        Check.read(x, "box a 0 1;box b 2;crowd a;star 2 a;not 0 2;");
        int[][] due = {{1, 0}, {1, 0}};
        for (int what = 0; what < 2; what++) {
            C.due("of a box", x.sort(0, 1, 0, true, what), due[0][what]);
            C.due("of two boxes", x.sort(0, 2, 1, true, what), due[1][what]);
            C.due("not said", x.sort(0, 2, 1, false, what) + x.sort(0, 0, 1, false, what), 0);
        }
        x.leave(0, 0, true);
        C.due("R", x.sort(0, 0, 2, true, 0), 2);
        C.due("C", x.sort(0, 0, 2, true, 1), 1);
    }

    private static void open() {
        C.terms("IV", "A pair is OPEN if of its SORT C is above 0 and below R");
        for (int k = 0; k <= 6; k++) {
            for (int b = 1; b < 4; b++) {
                // C 0: as it is not said; C 6, as R: the other way round
                asks("not said, C " + k, left(false, k), 0, 0, b, k < 6 ? 0 : 1, k > 0 ? 1 : 0);
                asks("said, C " + k, left(true, k), 0, b, 0, k > 0 ? 0 : 1, k < 6 ? 1 : 0);
                asks("far, C " + k, left(false, k), 3, 0, b, k > 0 ? 1 : 4, k < 6 ? 4 : 1);
            }
        }
        // R 1: C 1 is as R
        ToldNet one = Check.net(2, 0, 1);
        one.make(1);
        asks("R 1, C 0", one, 0, 0, 1, 1, 1);
        one.leave(0, 0, true);
        asks("R 1, C 1", one, 0, 0, 1, 1, 1);
        // R 2: C 1 is open, C 2 is not
        ToldNet two = Check.net(3);
        Check.read(two, "box a 0 1;box b 2;also 0 2;");
        Check.read(two, "box a 0 1;box b 2;also 0 2;also 1 2;");
        two.leave(0, 0, true);
        asks("R 2, C 1", two, 0, 1, 2, 0, 1);
        two.leave(1, 1, true);
        C.due("R 1, C 1: sure", two.ask(1, 0, 1, 2, false), 1);
        two.leave(1, 0, true);
        C.due("R 2, C 2: sure", two.ask(1, 0, 0, 2, false) + two.ask(1, 0, 1, 2, false), 2);
    }

    private static void toldNever() {
        C.terms("IV", "(a told EXCEPT never); else it is sure: a told EXCEPT");
        for (int k = 1; k <= 6; k++) {
            ToldNet also = left(false, k);
            ToldNet not = left(true, k);
            also.leave(0, 0, false);
            not.leave(0, 0, false);
            asks("also, the others of " + k + " left out", also, 0, 0, 1, 1, 1);
            asks("not, the others of " + k + " left out", not, 0, 1, 0, 0, 0);
            // of the others: C is one less, and so is R
            asks("another one of " + k, also, 0, 2, 3, k < 6 ? 0 : 1, k > 1 ? 1 : 0);
        }
    }

    private static void sets() {
        C.terms("IV", "How many of a set of r of a SORT's R pairs are LEFT OUT: C - (R - r), or 0 if that is below, at least; C, or r if "
            + "that is less, at most.");
        // R 6; of a post 3 pairs, of two posts 4 go out, of three posts 3, of two one
        int[] least3 = {0, 0, 0, 0, 1, 2, 3};
        int[] most3 = {0, 1, 2, 3, 3, 3, 3};
        int[] least4 = {0, 0, 0, 1, 2, 3, 4};
        int[] most4 = {0, 1, 2, 3, 4, 4, 4};
        for (int k = 0; k <= 6; k++) {
            ToldNet not = left(true, k);
            ToldNet also = left(false, k);
            for (int p = 0; p < 4; p++) {
                asks("of post " + p + ", C " + k, also, 1, p, 0, least3[k], most3[k]);
                asks("said, of post " + p + ", C " + k, not, 1, p, 0, 3 - most3[k], 3 - least3[k]);
                asks("of all but " + p + ", C " + k, also, 2, 15 & ~(1 << p), 0, least3[k], most3[k]);
            }
            asks("of two, C " + k, also, 2, 3, 0, least4[k], most4[k]);
            asks("of the other two, C " + k, also, 2, 12, 0, least4[k], most4[k]);
            asks("said, of two, C " + k, not, 2, 5, 0, 4 - most4[k], 4 - least4[k]);
        }
    }

    private static void cutOfNoneAndAll() {
        C.terms("IV", "2 CUT of a set a (bits of POSTS): TIES between it and all others.");
        for (int n = 2; n <= 16; n++) {
            ToldNet x = Check.full(n);
            x.make(1);
            int all = (1 << n) - 1;
            asks("of none of " + n, x, 2, 0, 0, 0, 0);
            asks("of all of " + n, x, 2, all, 0, 0, 0);
            asks("of the last of " + n, x, 2, 1 << n - 1, 0, n - 1, n - 1);
            asks("of all but one of " + n, x, 2, all - 1, 0, n - 1, n - 1);
            asks("beyond all of " + n, x, 2, all + 1, 0, -1, -1);
            asks("below none of " + n, x, 2, -1, 0, -1, -1);
        }
    }

    private static void far() {
        C.terms("IV", "of 3 with all OPEN pairs TIES (none of them; none: n)");
        for (int n = 2; n <= 16; n++) {
            ToldNet x = Check.net(n);
            for (int p = 0; p + 2 < n; p++) {
                x.tie(p, p + 1, true);
            }
            x.make(0);
            // the path goes to the post ahead of the last; the last has no tie
            asks("to none, " + n, x, 3, 0, n - 1, n, n);
            if (n > 2) {
                asks("along all of " + n, x, 3, 0, n - 2, n - 2, n - 2);
                asks("next", x, 3, n - 2, n - 3, 1, 1);
            }
            x.tie(n - 2, n - 1, true);
            x.make(0);
            C.due("as far as can be, " + n, x.ask(1, 3, n - 1, 0, true), n - 1);
        }
        asks("all open", left(false, 1), 3, 0, 3, 1, 4);
        asks("all open, all said but one", left(true, 5), 3, 2, 3, 1, 4);
    }

    private static void paths() {
        C.terms("IV", "of 4, 5 with no OPEN pair a TIE (all of them)");
        for (int n = 2; n <= 16; n++) {
            ToldNet x = Check.full(n);
            x.make(1);
            asks("all of " + n, x, 4, 0, n - 1, n - 2, n - 2);
            asks("trios of " + n, x, 5, n - 1, 0, (n - 1) * (n - 2) / 2, (n - 1) * (n - 2) / 2);
        }
        asks("all open", left(false, 1), 4, 0, 1, 0, 2);
        asks("none open, C as R", left(false, 6), 4, 0, 1, 2, 2);
        asks("trios, all open", left(true, 5), 5, 3, 0, 0, 3);
        asks("trios, none open, C as R", left(true, 6), 5, 3, 0, 0, 0);
    }

    private static void trios() {
        C.terms("IV", "5 TRIOS of a POST a: how many two others with which it and they have all three TIES.");
        ToldNet x = Check.net(4, 0, 1, 0, 2, 0, 3, 1, 2);
        x.make(0);
        int[] due = {1, 1, 1, 0};
        for (int p = 0; p < 4; p++) {
            asks("of " + p, x, 5, p, HIGH, due[p], due[p]);
        }
        ToldNet two = Check.net(2, 0, 1);
        two.make(0);
        asks("no two others", two, 5, 0, 0, 0, 0);
        asks("no other", two, 4, 0, 1, 0, 0);
    }

    private static void means() {
        C.terms("IV", "of a SORT not SAID 1000 * C * r / R, of one SAID 1000 * r less that (rounded down; r 0: 0), and 1000 for each told "
            + "also.");
        int[] one = {0, 166, 333, 500, 666, 833, 1000};
        int[] three = {0, 500, 1000, 1500, 2000, 2500, 3000};
        int[] four = {0, 666, 1333, 2000, 2666, 3333, 4000};
        for (int k = 0; k <= 6; k++) {
            ToldNet also = left(false, k);
            ToldNet not = left(true, k);
            C.due("tied, C " + k, also.mean(0, 0, 2, 3), one[k]);
            C.due("ties, C " + k, also.mean(0, 1, 3, 0), three[k]);
            C.due("cut, C " + k, also.mean(0, 2, 6, 0), four[k]);
            C.due("tied, said, C " + k, not.mean(0, 0, 2, 3), 1000 - one[k]);
            C.due("ties, said, C " + k, not.mean(0, 1, 3, 0), 3000 - three[k]);
            C.due("cut, said, C " + k, not.mean(0, 2, 6, 0), 4000 - four[k]);
            C.due("of no pair, C " + k, also.mean(0, 2, 0, 0) + not.mean(0, 2, 15, 0), 0);
        }
        // one told, of the five others one or none left out: 1000 and 200 for each pair of the post that is not told
        ToldNet x = left(false, 2);
        x.leave(0, 0, false);
        C.due("told also", x.mean(0, 0, 0, 1), 1000);
        C.due("and 1000 for it", x.mean(0, 1, 0, 0), 1000 + 400);
        C.due("not of another post", x.mean(0, 1, 3, 0), 600);
        ToldNet y = left(true, 2);
        y.leave(0, 0, false);
        C.due("told not", y.mean(0, 0, 0, 1), 0);
        C.due("none for it", y.mean(0, 1, 0, 0), 2000 - 400);
        // the most there can be: 120 pairs, 64 of them go out
        ToldNet all = Check.full(16);
        all.make(1);
        C.due("64 ties", all.mean(0, 2, 255, 0), 64000);
    }

    private static void noneOfASort() {
        C.terms("IV", "r 0: 0");
        // all pairs are told: R 0
        ToldNet x = Check.net(2, 0, 1);
        x.make(0);
        C.due("R 0", x.sort(0, 0, 1, false, 0), 0);
        C.due("R 0, said", x.sort(0, 0, 1, true, 0), 0);
        C.due("mean", x.mean(0, 0, 0, 1), 1000);
        asks("tied", x, 0, 0, 1, 1, 1);
        ToldNet y = left(true, 6);
        for (int k = 0; k < 6; k++) {
            y.leave(0, k, false);
        }
        C.due("all told: R 0", y.sort(0, 0, 1, true, 0), 0);
        C.due("all told", y.mean(0, 1, 0, 0), 0);
        asks("all told", y, 1, 0, 0, 0, 0);
        ToldNet z = left(false, 6);
        for (int k = 0; k < 6; k++) {
            z.leave(0, k, false);
        }
        C.due("all told", z.mean(0, 2, 3, 0), 4000);
    }

    private static void readersQuestions() {
        C.terms("IV", "THE READER has QUESTIONS (10 at most, a kind, a, b, a weight 1 .. 9); its HARM by a TELLING: the sum of weights "
            + "times OFF.");
        ToldNet x = left(false, 1);
        C.due("no questions", x.harm(0), 0);
        int due = 0;
        for (int i = 0; i < 10; i++) {
            int weight = i % 9 + 1;
            C.due("number", x.reader(0, 2, 3, weight), i);
            due += weight;
            C.due("harm", x.harm(0), due);
        }
        C.due("no eleventh", x.reader(0, 2, 3, 1), -1);
        C.due("harm", x.harm(0), due);
        C.due("ten", x.count(5), 10);
        ToldNet y = left(false, 0);
        y.reader(0, 2, 3, 9);
        C.due("nothing off", y.harm(0), 0);
        // of its own posts: 0 1 is told, 2 3 is open, and of post 0 fewer pairs are
        ToldNet own = new ToldNet();
        int[][] asked = {{0, 0, 1, 0}, {0, 1, 0, 0}, {0, 2, 3, 1}, {0, 3, 2, 1}, {1, 0, 0, 1}, {2, 1, 0, 1}, {2, 15, 0, 0}, {3, 0, 1, 0},
            {3, 1, 0, 0}, {4, 2, 3, 2}, {5, 0, 0, 3}};
        for (int[] q : asked) {
            own.net(4);
            Check.read(own, "box a 0 1 2 3;also 0 1;also 0 2;");
            own.leave(0, 1, true);
            own.reader(q[0], q[1], q[2], 2);
            C.due("harm of " + q[0] + " " + q[1] + " " + q[2], own.harm(0), 2 * q[3]);
        }
        // most less least of far: 4 less 1
        ToldNet z = left(false, 2);
        z.reader(3, 2, 3, 9);
        C.due("far", z.harm(0), 27);
    }

    /** Two nots of a crowd of five posts: 39 bits told, 33 if both are left out, 41 if one is. */
    private static ToldNet nots() {
        ToldNet x = Check.net(5);
        C.due("reads", Check.read(x, "box a 0 1 2 3 4;crowd a;not 0 1;not 2 3;"), 0);
        x.reader(1, 0, 0, 3);
        return x;
    }

    private static void servedInSets() {
        C.terms("IV", "if there are 9 at most: of all sets (bits by their numbers) with which LENGTH is not above it that with the least "
            + "HARM, of these the least LENGTH, then the least bits");
        int[][] due = {{32, -2, 39}, {33, 6, 33}, {34, 6, 33}, {38, 6, 33}, {39, 0, 39}, {40, 0, 39}, {41, 0, 39}, {HIGH, 0, 39}};
        for (int[] d : due) {
            ToldNet x = nots();
            C.due("served at " + d[0], x.serve(0, d[0]), d[1]);
            C.due("length then", x.length(0), d[2]);
        }
        // no questions: all sets are as harmless, the shortest is told
        ToldNet none = Check.net(5);
        Check.read(none, "box a 0 1 2 3 4;crowd a;not 0 1;not 2 3;");
        C.due("no questions", none.serve(0, 100), 0);
        C.due("the shortest", none.length(0), 33);
        // one told of two alike ones, which are as short: the least bits, so the first is told
        ToldNet bits = Check.net(16);
        StringBuilder text = new StringBuilder("box a 0 1 2 3 4 5 6 7 8 9 10 11 12 13 14 15;crowd a;not 0 1;not 2 3;not 4 5;");
        Check.read(bits, text.toString());
        bits.reader(0, 0, 1, 1);
        bits.reader(0, 2, 3, 1);
        // all left out 72 + 4 + 2 + 7, one told 72 + 10 + 13, two told 72 + 20 + 13, all told 72 + 30
        C.due("all left out", bits.serve(0, 85), 2);
        C.due("one told", bits.serve(0, 95), 1);
        for (int k = 0; k < 3; k++) {
            C.due("left out " + k, bits.except(0, k, 3), k == 0 ? 0 : 1);
        }
        C.due("all told", bits.serve(0, 105), 0);
        C.due("its length", bits.length(0), 102);
        C.due("one too short for all", bits.serve(0, 101), 1);
        // of sets with as much harm the shortest: an also of 91 pairs told, one of a single pair left out
        ToldNet two = Check.net(16);
        Check.read(two, "box a 0 1;box b 2 3 4 5 6 7 8 9 10 11 12 13 14 15;also 0 1;also 2 3;");
        // none told 72 + 7 + 13, the first 72 + 10 + 13, the second 72 + 7 + 10, both 72 + 20
        C.due("no harm", two.serve(0, 100), 0);
        C.due("the shortest", two.length(0), 89);
        C.due("just as long", two.serve(0, 89), 0);
        C.due("one too short", two.serve(0, 88), -2);
        C.due("it stays", two.except(0, 0, 3) * 10 + two.except(0, 1, 3), 10);
        two.reader(0, 2, 3, 5);
        C.due("both harmless sets", two.serve(0, 95), 0);
        C.due("the shorter one", two.length(0), 89);
        // a set with more harm is not told, though it is shorter
        two.net(16);
        Check.read(two, "box a 0 1;box b 2 3 4 5 6 7 8 9 10 11 12 13 14 15;also 0 1;also 2 3;");
        two.reader(0, 2, 3, 5);
        two.leave(0, 0, true);
        C.due("least harm", two.serve(0, 1000), 0);
        C.due("its length", two.length(0), 89);
        // no excepts: one set, the empty one
        ToldNet empty = Check.net(2);
        empty.make(1);
        C.due("no excepts, too long", empty.serve(0, 5), -2);
        C.due("no excepts", empty.serve(0, 6), 0);
    }

    /** The pairs of posts 0 .. 4 told by alsos (the first k of ten), post 5 without one: all left out 32 bits, if k is ten. */
    private static ToldNet alsos(int k) {
        StringBuilder text = new StringBuilder("box a 0 1 2 3 4 5;");
        int told = 0;
        for (int a = 0; a < 5; a++) {
            for (int b = a + 1; b < 5 && told < k; b++) {
                text.append("also ").append(a).append(' ').append(b).append(';');
                told++;
            }
        }
        ToldNet x = Check.net(6);
        C.due("reads", Check.read(x, text.toString()), 0);
        return x;
    }

    private static void servedInSteps() {
        C.terms("IV", "else: all LEFT OUT first; again and again, of those with which told besides LENGTH is not above it, that with which "
            + "HARM is least, the first of alike ones, is told, if HARM is less than it was.");
        // each also of post 0 that is told besides is 8 bits more (R 14 .. 8: 4 bits; R 7: 3) and one less off
        int[][] due = {{31, -2, 102}, {32, 5, 32}, {39, 5, 32}, {40, 4, 40}, {47, 4, 40}, {48, 3, 48}, {55, 3, 48}, {56, 2, 56}};
        for (int[] d : due) {
            ToldNet x = alsos(10);
            x.reader(1, 0, 0, 1);
            C.due("served at " + d[0], x.serve(0, d[0]), d[1]);
            C.due("length then", x.length(0), d[2]);
            if (d[1] >= 0) {
                for (int k = 0; k < 10; k++) {
                    C.due("the first of alike ones", x.except(0, k, 3), k < 5 - d[1] ? 0 : 1);
                }
            }
        }
        // all are left out first: what was told does not stay
        ToldNet y = alsos(10);
        y.reader(0, 0, 5, 2);
        C.due("no one alone helps", y.serve(0, HIGH), 2);
        C.due("all left out", y.length(0), 32);
    }

    private static void nineOrTen() {
        C.terms("IV", "which EXCEPTS are told: if there are 9 at most");
        // the pair 0 5 is open until all are told: sets find it, steps do not
        for (int k = 8; k <= 10; k++) {
            ToldNet x = alsos(k);
            x.reader(0, 0, 5, 1);
            C.due("of " + k, x.serve(0, 1000), k <= 9 ? 0 : 1);
            C.due("length of " + k, x.length(0), k <= 9 ? 22 + 8 * k : 32);
        }
    }

    private static void ledIfLess() {
        C.terms("IV", "LED: EXCEPTS LEFT OUT with which told besides, each alone, OFF of a QUESTION is less.");
        int[] leads = {0, 1, 1, 1, 1, 1, 0};
        for (int k = 0; k <= 6; k++) {
            ToldNet x = left(false, k);
            // the pair itself is the first except; with one alone left out nothing is open then; with all six nothing is
            C.due("of " + k, x.leads(0, 0, 0, 1), leads[k]);
            C.due("the first", x.led(0, 0, 0, 1, 0), leads[k] - 1);
            // the pair 2 3 is left out as the sixth alone
            C.due("no except, of " + k, x.leads(0, 0, 2, 3), k == 1 ? 1 : 0);
        }
        ToldNet x = left(false, 2);
        x.leave(0, 0, false);
        C.due("one told: the other leads", x.leads(0, 1, 0, 0), 1);
        C.due("its number among all", x.led(0, 1, 0, 0, 0), 1);
        x.leave(0, 1, false);
        C.due("none left out", x.leads(0, 1, 0, 0), 0);
        ToldNet y = left(false, 3);
        // 0 1, 0 2 and 0 3 are left out, each less off for the ties of 0
        C.due("three", y.leads(0, 1, 0, 0), 3);
        for (int i = 0; i < 3; i++) {
            C.due("by their numbers", y.led(0, 1, 0, 0, i), i);
        }
        C.due("not so many", y.led(0, 1, 0, 0, 3), -1);
    }

    private static ToldNet some() {
        ToldNet x = Check.net(4, 0, 1, 1, 2, 2, 3);
        x.make(1);
        x.make(0);
        x.leave(1, 1, true);
        Check.read(x, "box a 0 1 2 3;crowd a;not 0 3;not 1 2;");
        x.leave(2, 1, true);
        x.reader(1, 0, 0, 2);
        return x;
    }

    private static void leave() {
        C.promise(26, "An EXCEPT is LEFT OUT, or told again: true; false: no such ones.");
        ToldNet x = some();
        for (int k = 0; k < 3; k++) {
            for (int i = 0; i < 4; i++) {
                boolean out = i < 2;
                C.due("leave", x.leave(1, k, out), true);
                C.due("left out", x.except(1, k, 3), out ? 1 : 0);
            }
        }
        C.due("the others stay", x.except(2, 1, 3), 1);
    }

    private static void leaveRefused() {
        C.promise(26, "false: no such ones.");
        C.refused(QuestionEdges::some, 0, x -> x.leave(0, 0, true) ? 1 : 0, x -> x.leave(1, 3, true) ? 1 : 0,
            x -> x.leave(1, -1, true) ? 1 : 0, x -> x.leave(2, 2, false) ? 1 : 0, x -> x.leave(3, 0, true) ? 1 : 0,
            x -> x.leave(-1, 0, true) ? 1 : 0, x -> x.leave(1, LOW, true) ? 1 : 0, x -> x.leave(1, HIGH, true) ? 1 : 0,
            x -> x.leave(LOW, 0, true) ? 1 : 0, x -> x.leave(HIGH, 0, true) ? 1 : 0);
    }

    private static void sort() {
        C.promise(27, "Of the SORT of a pair: what 0 R, 1 C; NONE: no such ones, one and the same POST.");
        ToldNet x = some();
        int[][] due = {{5, 1}, {0, 0}};
        for (int said = 0; said < 2; said++) {
            for (int what = 0; what < 2; what++) {
                C.due("of a box, said " + said, x.sort(2, 3, 1, said == 1, what), due[1 - said][what]);
                C.due("of two boxes, said " + said, x.sort(1, 2, 1, said == 1, what), said == 1 ? 0 : 1);
                C.due("told, said " + said, x.sort(1, 1, 0, said == 1, what), 0);
                C.due("no tie, said " + said, x.sort(1, 3, 0, said == 1, what), said == 1 || what == 1 ? 0 : 1);
            }
        }
        C.refused(QuestionEdges::some, -1, y -> y.sort(2, 0, 0, true, 0), y -> y.sort(2, 3, 3, false, 1), y -> y.sort(2, 0, 4, true, 0),
            y -> y.sort(2, 4, 0, true, 0), y -> y.sort(2, -1, 0, true, 0), y -> y.sort(2, 0, -1, true, 0),
            y -> y.sort(3, 0, 1, true, 0), y -> y.sort(-1, 0, 1, true, 0), y -> y.sort(2, 0, 1, true, 2),
            y -> y.sort(2, 0, 1, true, -1), y -> y.sort(2, LOW, HIGH, true, 0), y -> y.sort(2, 0, 1, false, HIGH),
            y -> y.sort(LOW, 0, 1, false, 0), y -> y.sort(2, 0, 1, false, LOW), y -> y.sort(HIGH, 0, 1, false, 0));
    }

    /** One question after the other on one object: each is answered by what is told alone. */
    private static void askAgain() {
        C.promise(28, "A QUESTION's LEAST (most: MOST)");
        ToldNet x = left(false, 3);
        for (int i = 0; i < 120; i++) {
            C.due("ties", x.ask(0, 1, i % 4, 0, true), 3);
            C.due("tied", x.ask(0, 0, i % 4, (i + 1) % 4, false), 0);
            C.due("cut", x.ask(0, 2, 5, 0, true), 3);
            C.due("mean", x.mean(0, 2, 5, 0), 2000);
        }
    }

    /** What no kind asks: each kind with what it has not. */
    private static final int[][] NO_QUESTIONS = {{-1, 0, 1}, {6, 0, 1}, {LOW, 0, 1}, {HIGH, 0, 1}, {0, 1, 1}, {3, 0, 0}, {4, 3, 3},
        {0, 0, 4}, {0, 4, 0}, {0, -1, 0}, {0, 0, -1}, {3, 4, 0}, {3, 0, 4}, {3, -1, 0}, {4, 0, 4}, {4, 4, 0}, {4, 0, -1}, {1, -1, 0},
        {1, 4, 0}, {5, 4, 0}, {5, -1, 0}, {2, -1, 0}, {2, 16, 0}, {2, LOW, 0}, {2, HIGH, 0}, {1, HIGH, 0}, {5, LOW, 0}, {0, LOW, HIGH}};

    private static void askRefused() {
        C.promise(28, "NONE: no such TELLING, kind, POSTS, set (0 .. all POSTS' bits; of kinds 0, 3, 4 two POSTS, not the same).");
        ToldNet x = some();
        for (int[] q : NO_QUESTIONS) {
            C.due("least " + q[0] + " " + q[1] + " " + q[2], x.ask(2, q[0], q[1], q[2], false), -1);
            C.due("most " + q[0] + " " + q[1] + " " + q[2], x.ask(2, q[0], q[1], q[2], true), -1);
        }
        for (int kind = 0; kind < 6; kind++) {
            for (int t : new int[] {-1, 3, LOW, HIGH}) {
                C.due("telling " + t, x.ask(t, kind, 0, 1, true), -1);
            }
            C.due("the last posts", x.ask(2, kind, 3, 2, true) >= 0, true);
        }
        C.due("all posts' bits", x.ask(2, 2, 15, 0, true), 0);
        C.due("no post", x.ask(2, 2, 0, 0, true), 0);
    }

    private static void noMatter() {
        C.terms("IV", "1 TIES of a POST a (b of no matter).");
        ToldNet x = some();
        for (int b : new int[] {LOW, -1, 0, 3, 4, 16, HIGH}) {
            C.due("ties", x.ask(0, 1, 3, b, true), 1);
            C.due("cut", x.ask(0, 2, 8, b, true), 1);
            C.due("trios", x.ask(0, 5, 3, b, true), 0);
            C.due("mean of ties", x.mean(0, 1, 3, b), 1000);
            C.due("leads", x.leads(0, 1, 3, b), 0);
            C.due("reader", x.reader(1, 3, b, 1) >= 0, true);
        }
    }

    private static void meanRefused() {
        C.promise(29, "MEAN; NONE: no such ones, kinds 3 to 5.");
        ToldNet x = some();
        for (int[] q : NO_QUESTIONS) {
            C.due("mean " + q[0] + " " + q[1] + " " + q[2], x.mean(2, q[0], q[1], q[2]), -1);
        }
        for (int kind = 0; kind < 6; kind++) {
            C.due("kind " + kind, x.mean(0, kind, 1, 2) >= 0, kind < 3);
            for (int t : new int[] {-1, 3, LOW, HIGH}) {
                C.due("telling " + t, x.mean(t, kind, 0, 1), -1);
            }
        }
    }

    private static void leadsRefused() {
        C.promise(30, "How many EXCEPTS are LED to by a QUESTION; NONE: no such ones.");
        ToldNet x = some();
        for (int[] q : NO_QUESTIONS) {
            C.due("leads " + q[0] + " " + q[1] + " " + q[2], x.leads(2, q[0], q[1], q[2]), -1);
        }
        for (int t : new int[] {-1, 3, LOW, HIGH}) {
            C.due("telling " + t, x.leads(t, 0, 0, 1), -1);
        }
        C.due("of all kinds", x.leads(2, 5, 0, 0) >= 0 && x.leads(2, 3, 0, 1) >= 0 && x.leads(2, 4, 0, 1) >= 0, true);
        ToldNet y = some();
        String was = Check.state(y);
        y.leads(2, 1, 0, 0);
        y.led(2, 1, 0, 0, 0);
        C.due("all stays", Check.state(y), was);
    }

    private static void ledRefused() {
        C.promise(31, "The i-th of them; NONE: not so many, no such ones.");
        ToldNet x = some();
        for (int[] q : NO_QUESTIONS) {
            C.due("led " + q[0] + " " + q[1] + " " + q[2], x.led(2, q[0], q[1], q[2], 0), -1);
        }
        for (int t : new int[] {-1, 3, LOW, HIGH}) {
            C.due("telling " + t, x.led(t, 0, 1, 2, 0), -1);
        }
        // the not of 1 2 is left out alone
        C.due("one", x.leads(2, 0, 1, 2), 1);
        C.due("the 0th", x.led(2, 0, 1, 2, 0), 1);
        for (int i : new int[] {-1, 1, LOW, HIGH, 120}) {
            C.due("the " + i + "th", x.led(2, 0, 1, 2, i), -1);
        }
        C.due("none at all", x.led(0, 0, 1, 2, 0), -1);
    }

    private static void reader() {
        C.promise(32, "A QUESTION of THE READER: its number.");
        ToldNet x = Check.net(4);
        for (int i = 0; i < 10; i++) {
            C.due("number", x.reader(i % 6, i % 4, (i + 1) % 4, i % 9 + 1), i);
        }
        C.due("ten", x.count(5), 10);
        x.net(4);
        C.due("from 0 on again", x.reader(2, 15, HIGH, 9), 0);
        C.due("all six kinds, without tellings", x.reader(5, 3, LOW, 1), 1);
    }

    private static void readerRefused() {
        C.promise(32, "NONE, and nothing happens: 10 are there, no such ones (by THE NET's POSTS), weight.");
        C.refused(() -> {
            ToldNet x = some();
            for (int i = 1; i < 10; i++) {
                x.reader(1, 0, 0, 1);
            }
            return x;
        }, -1, x -> x.reader(1, 0, 0, 1), x -> x.reader(0, 0, 1, 9));
        C.refused(QuestionEdges::some, -1, x -> x.reader(1, 0, 0, 0), x -> x.reader(1, 0, 0, 10), x -> x.reader(1, 0, 0, -1),
            x -> x.reader(1, 0, 0, LOW), x -> x.reader(1, 0, 0, HIGH));
        for (int[] q : NO_QUESTIONS) {
            ToldNet x = Check.net(4);
            C.due("reader " + q[0] + " " + q[1] + " " + q[2], x.reader(q[0], q[1], q[2], 1), -1);
            C.due("none", x.count(5), 0);
        }
        ToldNet x = Check.net(5);
        C.due("post 4 of five", x.reader(1, 4, 0, 1), 0);
        C.due("all bits of five", x.reader(2, 31, 0, 1), 1);
        C.due("a bit more", x.reader(2, 32, 0, 1), -1);
    }

    private static void harm() {
        C.promise(33, "THE READER's HARM by a TELLING; NONE: no such one.");
        C.refused(QuestionEdges::some, -1, x -> x.harm(3), x -> x.harm(-1), x -> x.harm(LOW), x -> x.harm(HIGH), x -> x.harm(4));
        C.due("of the first", some().harm(0), 0);
        C.due("of the last", some().harm(2), 2);
        C.due("no tellings", Check.net(4).harm(0), -1);
    }

    private static void serve() {
        C.promise(34, "THE READER is SERVED at a LENGTH by a TELLING, which is told so then: HARM.");
        ToldNet x = nots();
        C.due("harm", x.serve(0, 33), x.harm(0));
        C.due("told so", x.except(0, 0, 3) + x.except(0, 1, 3), 2);
        C.due("harm", x.serve(0, 39), x.harm(0));
        C.due("told so", x.except(0, 0, 3) + x.except(0, 1, 3), 0);
        x.copy(0);
        x.serve(1, 33);
        C.due("the other one stays", x.length(0), 39);
    }

    private static ToldNet alone(int ties) {
        ToldNet x = Check.net(16);
        for (int i = 0; i < ties; i++) {
            x.tie(0, i + 1, true);
        }
        x.make(0);
        return x;
    }

    private static void serveTooShort() {
        C.promise(34, "-2, and nothing happens: LENGTH is above it with all LEFT OUT (in no set, if there are 9 at most)");
        C.refused(QuestionEdges::nots, -2, x -> x.serve(0, 32), x -> x.serve(0, 0), x -> x.serve(0, -1), x -> x.serve(0, LOW));
        // each alone: an except left out is three bits longer than one that is told (4 + 8 + 1)
        for (int ties = 8; ties <= 11; ties++) {
            int told = 128 + 10 * ties;
            int left = 128 + 13 * ties;
            ToldNet x = alone(ties);
            C.due("all told", x.length(0), told);
            C.due("one too short", x.serve(0, (ties <= 9 ? told : left) - 1), -2);
            C.due("nothing happens", x.length(0), told);
            C.due("all of them told still", x.except(0, ties - 1, 3) + x.except(0, 0, 3), 0);
            C.due("just long enough", x.serve(0, ties <= 9 ? told : left), 0);
            C.due("its length then", x.length(0), ties <= 9 ? told : left);
            C.due("refused", x.serve(0, told - 1), -2);
            C.due("nothing happens", x.length(0), ties <= 9 ? told : left);
        }
        // some told, some left out: it stays so
        ToldNet x = alone(10);
        x.leave(0, 4, true);
        C.due("refused", x.serve(0, 257), -2);
        for (int k = 0; k < 10; k++) {
            C.due("as it was", x.except(0, k, 3), k == 4 ? 1 : 0);
        }
        ToldNet y = nots();
        y.leave(0, 1, true);
        C.due("refused", y.serve(0, 32), -2);
        C.due("as it was", y.except(0, 0, 3) * 10 + y.except(0, 1, 3), 1);
    }

    private static void serveNone() {
        C.promise(34, "NONE, and nothing happens: no such TELLING.");
        C.refused(QuestionEdges::some, -1, x -> x.serve(3, 1000), x -> x.serve(-1, 1000), x -> x.serve(LOW, 0), x -> x.serve(HIGH, 0),
            x -> x.serve(5, -1));
    }
}
