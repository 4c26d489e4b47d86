/** Promises 12 to 25 and section II of the terms at their edges: each method is about one sentence of the document. */
public final class TellingEdges {
    private static final Check C = new Check();
    private static final int LOW = Integer.MIN_VALUE;
    private static final int HIGH = Integer.MAX_VALUE;
    /** The least whole b of 1 or more so that 2 to the b is k at least, for k from 0 on. */
    private static final int[] B = {1, 1, 1, 2, 2, 3, 3, 3, 3, 4, 4, 4, 4, 4, 4, 4, 4};

    public static void main(String[] args) {
        boxesNumbered();
        wordsOfTwo();
        starsOfAnother();
        chainsOfTwo();
        sidesOfTwo();
        builds();
        wordsNumbered();
        exceptsNumbered();
        bitsOfPosts();
        bitsOfBoxes();
        bitsOfExcepts();
        bitsOfSorts();
        sparesMoreThanNone();
        starsBehindThoseAhead();
        rowsBegin();
        exceptsAreLeft();
        joinedIfLess();
        firstOfAlikeJoins();
        roundsOfMoves();
        leastFirst();
        pieces();
        atMostSoManyBoxes();
        make();
        makeRefused();
        copies();
        copyRefused();
        drops();
        lengthOfNone();
        boxOfNone();
        rowOfNone();
        words();
        wordThrows();
        exceptThrows();
        built();
        unlike();
        together();
        togetherRefused();
        apart();
        apartRefused();
        bound();
        bests();
        C.finish("TellingEdges");
    }

    /** Tellings of four posts: all in one box with a chain, two told boxes, each alone with one except left out. */
    private static ToldNet some() {
        ToldNet x = Check.net(4, 0, 1, 1, 2, 2, 3);
        x.make(1);
        Check.read(x, "box a 3 1;box b 2 0;crowd a;sides b a;star 1 b;not 1 3;");
        x.make(0);
        x.leave(2, 1, true);
        return x;
    }

    private static ToldNet five() {
        ToldNet x = some();
        x.copy(1);
        x.copy(0);
        return x;
    }

    /** Puts posts of a telling into one box each, as they are told together. */
    private static int join(ToldNet x, int t, int... posts) {
        int length = x.length(t);
        for (int i = 1; i < posts.length; i++) {
            length = x.together(t, x.box(t, posts[0]), x.box(t, posts[i]));
        }
        return length;
    }

    private static void boxes(String what, ToldNet x, int t, int... due) {
        for (int p = 0; p < due.length; p++) {
            C.due(what + ", box of " + p, x.box(t, p), due[p]);
        }
    }

    private static void boxesNumbered() {
        C.terms("II", "BOXES are numbered by their least POSTS.");
        ToldNet x = Check.net(5);
        Check.read(x, "box z 4;box y 3 1;box x 2 0;");
        boxes("told", x, 0, 0, 1, 0, 1, 2);
        x.apart(0, 0);
        boxes("0 alone", x, 0, 0, 1, 2, 1, 3);
        x.together(0, 3, 0);
        boxes("0 and 4", x, 0, 0, 1, 2, 1, 0);
    }

    private static void wordsOfTwo() {
        C.terms("II", "a CROWD of a BOX (of two POSTS or more) all pairs of it");
        for (int n = 2; n <= 16; n++) {
            ToldNet alone = Check.full(n);
            alone.make(0);
            for (int k = 0; k < alone.count(20); k++) {
                C.due("no crowds, stars, chains of boxes of one, " + n, alone.word(0, k, 0), 1);
            }
            // of two posts: one tie is not told by a crowd where E is as its own bits (n 2), else it is
            int t = alone.make(0);
            alone.together(t, 0, 1);
            C.due("of " + n, alone.count(20 + t) > 0 && alone.word(t, 0, 0) == 0, n > 2);
        }
        // a box of one has no pair, whatever is told of others
        ToldNet x = Check.net(3, 0, 1);
        x.make(0);
        join(x, 0, 0, 1);
        C.due("one crowd", x.count(20), 1);
        C.due("of box 0", x.word(0, 0, 1), 0);
    }

    private static void builds(String what, ToldNet x, String ties) {
        int t = x.count(4) - 1;
        for (int a = 0; a < x.count(0); a++) {
            for (int b = a + 1; b < x.count(0); b++) {
                C.due(what + ": " + a + " " + b, x.built(t, a, b), ties.contains(a + "-" + b) ? 1 : 0);
            }
        }
    }

    private static void starsOfAnother() {
        C.terms("II", "a STAR of a POST and a BOX (with another POST in it) that POST with all others of the BOX");
        ToldNet x = Check.net(4);
        Check.read(x, "box a 0;box b 1 2 3;star 1 a;");
        builds("of one other", x, "0-1");
        Check.read(x, "box a 0 1;box b 2 3;star 1 a;");
        builds("of its own box", x, "0-1");
        Check.read(x, "box a 0 1;box b 2 3;star 1 b;");
        builds("of another box", x, "1-2 1-3");
        Check.read(x, "box a 0 1 2 3;star 3 a;");
        builds("of all in one", x, "0-3 1-3 2-3");
        // by THE RULE none is taken of a post and its own box of one
        for (int n = 2; n <= 16; n++) {
            ToldNet full = Check.full(n);
            full.make(0);
            C.due("no words", full.count(20), 0);
        }
    }

    private static void chainsOfTwo() {
        C.terms("II", "a CHAIN of a BOX (of two POSTS or more) each two beside one another in its ROW.");
        ToldNet x = Check.net(5);
        Check.read(x, "box a 4 2;box b 0 3 1;chain a;");
        builds("of two", x, "2-4");
        Check.read(x, "box a 4 2;box b 0 3 1;chain b;");
        builds("of three", x, "0-3 1-3");
        Check.read(x, "box a 4 2 0 3 1;chain a;");
        builds("of all", x, "2-4 0-2 0-3 1-3");
        Check.read(x, "box a 4 2 0 3 1;");
        builds("no chain", x, "");
        // the rule's chains: none of a box of one, 4 bits of a box of two alike only if it spares
        C.terms("II", "then CHAINS likewise.");
        ToldNet path = Check.net(4, 0, 1, 1, 2, 2, 3);
        path.make(1);
        C.due("a chain", path.word(0, 0, 0), 3);
        path.make(0);
        C.due("none of one post", path.count(21), 0);
        // of three pairs two ties: 6 less 4; of two pairs one: -4
        ToldNet gap = Check.net(4, 0, 1, 2, 3);
        gap.make(1);
        rule("chain spares 2", gap, 1, 8 + 4 + 4 + 6);
        ToldNet one = Check.net(3, 0, 1);
        one.make(1);
        rule("chain spares -4", one, 0, 6 + 4 + 6);
    }

    private static void sidesOfTwo() {
        C.terms("II", "SIDES of two BOXES all pairs of one POST of each");
        ToldNet x = Check.net(5);
        Check.read(x, "box a 4 0;box b 1 3;box c 2;sides a b;");
        builds("of two and two", x, "0-1 0-3 1-4 3-4");
        Check.read(x, "box a 4 0;box b 1 3;box c 2;sides c a;");
        builds("of one and two", x, "0-2 2-4");
        Check.read(x, "box a 4 0 1 3;box c 2;sides c a;");
        builds("of one and all others", x, "0-2 1-2 2-3 2-4");
        ToldNet two = Check.net(2);
        Check.read(two, "box a 0;box b 1;sides a b;");
        builds("of one and one", two, "0-1");
    }

    private static void builds() {
        C.terms("II", "It BUILDS the NET of pairs that are SAID and no EXCEPT, or EXCEPT and not SAID.");
        ToldNet x = Check.net(4);
        Check.read(x, "box a 0 1 2 3;chain a;not 1 2;also 0 3;");
        builds("told", x, "0-1 2-3 0-3");
        x.leave(0, 0, true);
        x.leave(0, 1, true);
        builds("left out, too", x, "0-1 2-3 0-3");
        Check.read(x, "box a 0 1 2 3;crowd a;not 0 1;not 0 2;not 0 3;not 1 2;not 1 3;not 2 3;");
        builds("all not", x, "");
        Check.read(x, "box a 0 1 2 3;also 0 1;also 0 2;also 0 3;also 1 2;also 1 3;also 2 3;");
        builds("all also", x, "0-1 0-2 0-3 1-2 1-3 2-3");
    }

    private static void wordsNumbered() {
        C.terms("II", "WORDS are numbered: CROWDS by BOXES, SIDES by the lesser BOX, then the other, STARS by POST, then BOX, "
            + "CHAINS by BOXES.");
        ToldNet x = Check.net(6);
        String text = "box f 5 4;box e 3 2;box d 1 0;chain f;star 5 d;sides f e;crowd f;chain d;star 5 e;sides d f;star 0 f;crowd d;"
            + "star 0 e;sides e d;crowd e;chain e;";
        C.due("reads", Check.read(x, text), 0);
        int[][] due = {{0, 0, -1}, {0, 1, -1}, {0, 2, -1}, {1, 0, 1}, {1, 0, 2}, {1, 1, 2}, {2, 0, 1}, {2, 0, 2}, {2, 5, 0},
            {2, 5, 1}, {3, 0, -1}, {3, 1, -1}, {3, 2, -1}};
        C.due("words", x.count(20), due.length);
        for (int k = 0; k < due.length; k++) {
            for (int what = 0; what < 3; what++) {
                C.due("word " + k + " " + what, x.word(0, k, what), due[k][what]);
            }
        }
    }

    private static void exceptsNumbered() {
        C.terms("II", "EXCEPTS are pairs, numbered by the lesser POST, then the other: SAID, but no TIE (not); a TIE that is not SAID");
        ToldNet x = Check.net(4);
        Check.read(x, "box a 3 2 1 0;star 3 a;also 2 1;not 3 0;also 0 2;not 2 3;also 1 0;");
        int[][] due = {{0, 1, 0}, {0, 2, 0}, {0, 3, 1}, {1, 2, 0}, {2, 3, 1}};
        C.due("excepts", x.count(30), due.length);
        for (int k = 0; k < due.length; k++) {
            for (int what = 0; what < 3; what++) {
                C.due("except " + k + " " + what, x.except(0, k, what), due[k][what]);
            }
        }
    }

    private static void bitsOfPosts() {
        C.terms("II", "B(k): the least whole number b of 1 or more so that 2 to the b is k at least. With n POSTS and m BOXES, E being "
            + "2 + 2 * B(n): LENGTH: n * B(n) + 4 * m");
        for (int n = 2; n <= 16; n++) {
            ToldNet x = Check.net(n);
            x.make(0);
            C.due("each alone, " + n, x.length(0), n * B[n] + 4 * n);
            x.make(1);
            C.due("all in one, " + n, x.length(1), n * B[n] + 4);
            // one tie of posts alone: neither sides nor a star spare anything
            x.tie(0, n - 1, true);
            x.make(0);
            C.due("an except of " + n, x.length(2), n * B[n] + 4 * n + 2 + 2 * B[n]);
            C.due("no words of " + n, x.count(22), 0);
        }
    }

    private static void bitsOfBoxes() {
        C.terms("II", "for each CROWD, CHAIN 3 + B(m), SIDES 3 + 2 * B(m), STAR 3 + B(n) + B(m)");
        for (int m = 1; m <= 16; m++) {
            // box 0 has 17 - m posts, each other one has one
            StringBuilder text = new StringBuilder("box a");
            for (int p = 0; p <= 16 - m; p++) {
                text.append(' ').append(p);
            }
            text.append(';');
            for (int p = 17 - m; p < 16; p++) {
                text.append("box x").append((char) ('a' + p)).append(' ').append(p).append(';');
            }
            int base = 16 * 4 + 4 * m;
            String[] words = {"crowd a;", "chain a;", "sides a xp;", "star 15 a;"};
            int[] due = {3 + B[m], 3 + B[m], 3 + 2 * B[m], 3 + 4 + B[m]};
            ToldNet x = Check.net(16);
            for (int i = 0; i < 4; i++) {
                if (m > 1 && (m < 16 || i > 1) || m == 1 && i != 2) {
                    C.due("reads " + m + " " + words[i], Check.read(x, text + words[i]), 0);
                    C.due("bits of " + words[i] + ", boxes " + m, x.length(x.count(4) - 1), base + due[i]);
                    x.drop();
                }
            }
        }
        for (int n = 2; n <= 15; n++) {
            ToldNet x = Check.net(n);
            StringBuilder text = new StringBuilder("box a");
            for (int p = 0; p < n; p++) {
                text.append(' ').append(p);
            }
            C.due("reads", Check.read(x, text + ";star 0 a;"), 0);
            C.due("star of " + n, x.length(0), n * B[n] + 4 + 3 + B[n] + 1);
        }
    }

    private static void bitsOfExcepts() {
        C.terms("II", "for each EXCEPT that is told E");
        for (int n = 2; n <= 16; n++) {
            ToldNet x = Check.net(n);
            StringBuilder text = new StringBuilder("box a");
            for (int p = 0; p < n; p++) {
                text.append(' ').append(p);
            }
            Check.read(x, text + ";");
            Check.read(x, text + ";also 0 1;");
            Check.read(x, text + ";crowd a;");
            Check.read(x, text + ";crowd a;not 0 1;");
            C.due("an also of " + n, x.length(1) - x.length(0), 2 + 2 * B[n]);
            C.due("a not of " + n, x.length(3) - x.length(2), 2 + 2 * B[n]);
        }
    }

    private static void bitsOfSorts() {
        C.terms("II", "for each SORT with C above 0: 4 + 2 * B(m) + B(R + 1)");
        StringBuilder text = new StringBuilder("box a 0 1 2 3 4 5;");
        for (int a = 0; a < 6; a++) {
            for (int b = a + 1; b < 6; b++) {
                text.append("also ").append(a).append(' ').append(b).append(';');
            }
        }
        ToldNet x = Check.net(6);
        Check.read(x, text.toString());
        C.due("C 0, R 0: no bits", x.length(0), 18 + 4 + 15 * 8);
        for (int r = 1; r <= 15; r++) {
            // all that are left out are all of R: C is R
            x.leave(0, r - 1, true);
            int due = 18 + 4 + (15 - r) * 8 + 4 + 2 + B[r + 1];
            C.due("R " + r, x.length(0), due);
            C.due("R", x.sort(0, 0, 1, false, 0), r);
            C.due("C", x.sort(0, 0, 1, false, 1), r);
        }
        // one left out of 120 pairs, and of 63, of 64: B(121), B(64), B(65)
        ToldNet y = Check.net(16);
        StringBuilder all = new StringBuilder("box a 0 1 2 3 4 5 6 7 8 9 10 11 12 13 14 15;");
        Check.read(y, all + "also 0 1;");
        y.leave(0, 0, true);
        C.due("R 120", y.length(0), 64 + 4 + 4 + 2 + 7);
        int told = 0;
        for (int a = 0; a < 16; a++) {
            for (int b = a + 1; b < 16 && told < 58; b++) {
                all.append("also ").append(a).append(' ').append(b).append(';');
                told++;
            }
        }
        Check.read(y, all.toString());
        y.leave(1, 0, true);
        C.due("R 63", y.length(1), 68 + 57 * 10 + 4 + 2 + 6);
        y.leave(1, 1, true);
        C.due("R 64", y.length(1), 68 + 56 * 10 + 4 + 2 + 7);
        // each sort for itself: said and not said, of a box, of two boxes
        ToldNet z = Check.net(6);
        Check.read(z, "box a 0 1 2;box b 3 4 5;chain a;crowd b;also 0 2;not 0 1;not 3 4;also 0 3;also 1 3;");
        int[] bits = {8, 8, 8, 8, 8};
        int length = 18 + 8 + 4 + 4 + 5 * 8;
        C.due("all told", z.length(0), length);
        // 0 1 (a, said, R 1 + 1), 0 2 (a, not said, R 1), 0 3 and 1 3 (a b, R 9), 3 4 (b, said, R 3)
        int[] sortBits = {4 + 2 + 2, 4 + 2 + 1, 4 + 2 + 4, 0, 4 + 2 + 2};
        // the first of 0 3 and 1 3 left out: R 8 (1 3 is told), then R 9: both B(9) and B(10) are 4
        for (int k = 0; k < 5; k++) {
            z.leave(0, k, true);
            length += sortBits[k] - bits[k];
            C.due("left out " + k, z.length(0), length);
        }
        for (int k = 0; k < 5; k++) {
            z.leave(0, k, false);
        }
        C.due("all told again: no bits", z.length(0), 18 + 8 + 4 + 4 + 5 * 8);
    }

    private static void rule(String what, ToldNet x, int words, int length) {
        int t = x.count(4) - 1;
        C.due(what + ": words", x.count(20 + t), words);
        C.due(what + ": length", x.length(t), length);
    }

    private static void sparesMoreThanNone() {
        C.terms("II", "CROWDS and SIDES are taken if they SPARE more than 0 (of all their pairs)");
        // a crowd and a chain of E 4 with own bits 4: 0
        ToldNet two = Check.net(2, 0, 1);
        two.make(1);
        rule("crowd and chain spare 0", two, 0, 2 + 4 + 4);
        // a crowd of three pairs, two ties: 6 - 4; of six pairs, three ties: -4; four: 12 - 4
        ToldNet three = Check.net(3, 0, 1, 0, 2);
        three.make(1);
        rule("crowd spares 2", three, 1, 6 + 4 + 4 + 6);
        ToldNet four = Check.net(4, 0, 1, 0, 2, 1, 2);
        four.make(1);
        C.due("crowd of half its pairs", four.count(20) == 0 || four.word(0, 0, 0) != 0, true);
        four.tie(0, 3, true);
        four.make(1);
        C.due("crowd of four of six", four.word(1, 0, 0), 0);
        // sides of three pairs, two ties: E 6, own bits 5
        ToldNet sides = Check.net(4, 0, 3, 1, 3);
        sides.make(0);
        C.due("sides spare 1", join(sides, 0, 0, 1, 2), 8 + 8 + 5 + 6);
        C.due("sides", sides.word(0, 0, 0), 1);
        // one tie of two boxes: E 6 less 7 (three boxes of four posts), E 8 less 7 (four of five), less 9 (five of five)
        ToldNet spare = Check.net(4, 0, 1);
        spare.make(0);
        C.due("sides spare -1", join(spare, 0, 2, 3), 8 + 12 + 6);
        ToldNet five = Check.net(5, 0, 1);
        five.make(0);
        rule("sides spare -1", five, 0, 15 + 20 + 8);
        C.due("sides spare 1", join(five, 0, 3, 4), 15 + 16 + 7);
        rule("sides spare 1", five, 1, 15 + 16 + 7);
        // E 10 less 11 (nine boxes), less 9 (eight)
        ToldNet nine = Check.net(9, 0, 1);
        nine.make(0);
        rule("sides spare -1", nine, 0, 36 + 36 + 10);
        C.due("sides spare 1", join(nine, 0, 7, 8), 36 + 32 + 9);
        stars();
    }

    private static void stars() {
        C.terms("II", "then STARS likewise, each behind those taken ahead");
        // of three pairs two ties: E 6 less 6 is 0, E 8 less 7 (one box) is 1, less 8 (three boxes) is 0
        ToldNet four = Check.net(4, 0, 1, 0, 2);
        four.make(1);
        rule("star spares 0", four, 0, 8 + 4 + 12);
        ToldNet six = Check.net(6, 0, 1, 0, 2, 0, 3);
        six.make(1);
        rule("star spares 1", six, 1, 18 + 4 + 7 + 16);
        C.due("star", six.word(0, 0, 0), 2);
        ToldNet boxes = Check.net(6, 0, 1, 0, 2);
        boxes.make(0);
        C.due("star spares 0", join(boxes, 0, 0, 1, 2, 3), 18 + 12 + 16);
        C.due("no words", boxes.count(20), 0);
        C.due("star spares 1", boxes.together(0, 1, 2), 18 + 8 + 7 + 8);
        // E 10 less 10 (five boxes of nine posts) is 0, less 9 (four) is 1
        ToldNet nine = Check.net(9, 0, 1, 0, 2);
        nine.make(0);
        join(nine, 0, 0, 1, 2, 3);
        C.due("star spares 0", join(nine, 0, 4, 5), 36 + 20 + 20);
        C.due("no words", nine.count(20), 0);
        C.due("star spares 1", join(nine, 0, 6, 7), 36 + 16 + 9 + 10);
        C.due("one word", nine.count(20), 1);
    }

    private static void starsBehindThoseAhead() {
        C.terms("II", "of the pairs that it says and that are not SAID yet");
        // star of 0 says 0 1: of post 1 two ties of four pairs are left, though it has three of five
        ToldNet x = Check.net(6, 0, 1, 0, 2, 0, 3, 0, 4, 0, 5, 1, 2, 1, 3);
        x.make(1);
        rule("one star", x, 1, 18 + 4 + 7 + 16);
        // a chain of pairs that are said already spares none: a crowd says all
        ToldNet full = Check.full(4);
        full.make(1);
        rule("crowd alone", full, 1, 8 + 4 + 4);
        // a chain of five pairs, of which two are said: 3 ties of 3 are left
        ToldNet hub = Check.net(7, 0, 1, 0, 2, 0, 3, 0, 4, 0, 5, 0, 6, 2, 3, 3, 4, 4, 5, 5, 6);
        hub.make(1);
        // row 1 (one tie) 0 2 3 4 5 6: 1 0 and 0 2 said by the star of 0
        rule("star and chain", hub, 2, 21 + 4 + 7 + 4);
        C.due("star", hub.word(0, 0, 0), 2);
        C.due("chain", hub.word(0, 1, 0), 3);
    }

    private static void row(String what, ToldNet x, int... due) {
        for (int i = 0; i < due.length; i++) {
            C.due(what + " " + i, x.row(0, 0, i), due[i]);
        }
        C.due(what + ", its end", x.row(0, 0, due.length), -1);
    }

    private static void rowsBegin() {
        C.terms("II", "one begins with the POST of its BOX with the fewest TIES in it (of these the least), then always the least POST of "
            + "the BOX that is not in it yet and has a TIE with the last one, if there is none the least that is not in it yet");
        ToldNet none = Check.net(4);
        none.make(1);
        row("no ties: the least", none, 0, 1, 2, 3);
        ToldNet full = Check.full(16);
        full.make(1);
        row("all ties: the least", full, 0, 1, 2, 3, 4, 5, 6, 7, 8, 9, 10, 11, 12, 13, 14, 15);
        ToldNet few = Check.net(5, 0, 4, 0, 1, 4, 1, 1, 2, 4, 3, 0, 3);
        // ties: 0 3, 1 3, 2 1, 3 2, 4 3
        few.make(1);
        row("the fewest, then the least near ones", few, 2, 1, 0, 3, 4);
        ToldNet gaps = Check.net(5, 0, 1, 2, 3);
        gaps.make(1);
        row("none near: the least left", gaps, 4, 0, 1, 2, 3);
        // ties into other boxes do not count: box 0 is 0 1 2, post 0 has two ties, none of them in its box
        ToldNet out = Check.net(5, 0, 3, 0, 4, 1, 2);
        out.make(0);
        join(out, 0, 0, 1, 2);
        row("in its box alone", out, 0, 1, 2);
        ToldNet one = Check.net(2);
        one.make(0);
        row("of one post", one, 0);
    }

    private static void exceptsAreLeft() {
        C.terms("II", "EXCEPTS are what is left, none LEFT OUT.");
        ToldNet x = Check.net(4, 0, 1, 0, 2);
        x.make(1);
        int[][] due = {{0, 1, 0, 0}, {0, 2, 0, 0}};
        for (int k = 0; k < 2; k++) {
            for (int what = 0; what < 4; what++) {
                C.due("also " + k, x.except(0, k, what), due[k][what]);
            }
        }
        x.leave(0, 0, true);
        x.leave(0, 1, true);
        x.apart(0, 3);
        C.due("told anew", x.count(30) == 0 || x.except(0, 0, 3) == 0, true);
        ToldNet full = Check.full(4);
        full.make(1);
        C.due("nothing left", full.count(30), 0);
    }

    private static void joinedIfLess() {
        C.terms("II", "the first of alike ones, if it is less than it was.");
        // boxes 0 1 and 2 3 4 with a crowd: 15 + 8 + 4; all in one with an also: 15 + 4 + 8, which is not less
        ToldNet x = Check.net(5, 0, 1);
        x.make(2);
        boxes("not joined", x, 0, 0, 0, 1, 1, 1);
        C.due("27", x.length(0), 27);
        C.due("27, too", x.together(0, 0, 1), 27);
        // sides of 0 2 and 1, and a post alone with the wrong two: 22 bits, as all in one with a chain or two alsos
        ToldNet y = Check.net(4, 0, 1, 1, 2);
        y.make(2);
        boxes("not joined", y, 0, 0, 1, 0, 1);
        int was = y.length(0);
        C.due("as long", y.together(0, 0, 1), was);
    }

    private static void firstOfAlikeJoins() {
        C.terms("II", "of all two BOXES (the lesser one first, then the other) that which put together make LENGTH (by THE RULE's WORDS) "
            + "least, the first of alike ones");
        // 1 2 first (45 bits, as 1 3 and 2 3), then 3 to them (34), then 0 to these or to 4: 30 both, the lesser box first
        ToldNet x = Check.net(5, 0, 1, 0, 2, 0, 3);
        x.make(2);
        boxes("joined", x, 0, 0, 0, 0, 0, 1);
        C.due("its length", x.length(0), 15 + 8 + 7);
        x.make(0);
        join(x, 1, 0, 4);
        C.due("the other one is as long", join(x, 1, 1, 2, 3), 15 + 8 + 7);
    }

    private static void roundsOfMoves() {
        C.terms("II", "Then rounds: POST by POST it goes into that BOX (by numbers as they are without it, one of its own last) with which "
            + "LENGTH is least, the first of alike ones, if it is less than it was; until a round moves none.");
        // all are put together first (a chain and a not, 34); then post 1 goes into a box of its own
        ToldNet x = Check.net(6, 0, 5, 2, 4, 2, 5, 3, 4);
        x.make(1);
        C.due("all in one", x.length(0), 18 + 4 + 4 + 8);
        x.drop();
        x.make(2);
        boxes("post 1 has moved", x, 0, 0, 1, 0, 0, 0, 0);
        C.due("its length", x.length(0), 18 + 8 + 4);
        // a second round moves some: boxes 0 4 5 and 1 2 3 (49) become 0 1 2 3 and 4 5 (a star, a crowd, an also)
        ToldNet y = Check.net(6, 0, 1, 0, 2, 0, 3, 1, 4, 4, 5);
        y.make(2);
        boxes("two rounds", y, 0, 0, 0, 0, 0, 1, 1);
        C.due("its length", y.length(0), 18 + 8 + 7 + 4 + 8);
        for (int n = 2; n <= 16; n++) {
            ToldNet none = Check.net(n);
            none.make(2);
            C.due("no ties: all in one", none.count(10), 1);
            ToldNet full = Check.full(n);
            full.make(2);
            C.due("all ties: all in one", full.count(10), 1);
        }
    }

    private static void leastFirst() {
        C.terms("II", "THE LEAST (8 POSTS at most): of all partings that with the least LENGTH; of these the first (the BOX of POST 0 the "
            + "least, then of POST 1, ..).");
        // all in one (an also) and 0 1, 2 3 4 (a crowd) are as long: all in one is the first
        ToldNet x = Check.net(5, 0, 1);
        x.make(3);
        boxes("the first", x, 0, 0, 0, 0, 0, 0);
        C.due("its length", x.length(0), 27);
        C.due("two of them", x.bests(), 2);
        // 0 1 2 3 | 4 is ahead of 0 4 | 1 2 3
        ToldNet y = Check.net(5, 0, 1, 0, 2, 0, 3);
        y.make(3);
        boxes("the first", y, 0, 0, 0, 0, 0, 1);
        C.due("two of them", y.bests(), 2);
        C.due("of eight", Check.net(8).make(3), 0);
        C.due("of nine", Check.net(9).make(3), -1);
        C.due("of two", Check.net(2).make(3), 0);
        // the last of all partings is looked at: eight posts, no two of which are alike, are not best alone; two with a tie
        ToldNet two = Check.net(2, 0, 1);
        two.make(3);
        C.due("two: all in one", two.length(0), 2 + 4 + 4);
    }

    private static void pieces() {
        C.terms("II", "PIECES: POSTS 0 .. 4, 5 .. 9, 10 .. 14, 15, as far as there are such");
        // a tie of two posts of one piece costs a second box, one of two pieces nothing
        for (int n = 2; n <= 16; n++) {
            for (int a = 0; a < n; a++) {
                for (int b = a + 1; b < n; b += 3) {
                    int size = Math.min(5, n - 5 * (a / 5));
                    // a piece of two posts has one pair: all alike
                    int due = a / 5 != b / 5 || size == 2 ? 4 : 8;
                    C.due("tie " + a + " " + b + " of " + n, Check.net(n, a, b).bound(), n * B[n] + due);
                }
            }
            C.due("no ties of " + n, Check.net(n).bound(), n * B[n] + 4);
            C.due("all ties of " + n, Check.full(n).bound(), n * B[n] + 4);
        }
    }

    private static void atMostSoManyBoxes() {
        C.terms("II", "the least over m = 1 .. n of 4 * m + E * (the sum over PIECES");
        // a path of four: three wrong in one box, one in two (0 1, 2 3), one in three, none in four: 8 + 6
        C.due("a path of four", Check.net(4, 0, 1, 1, 2, 2, 3).bound(), 8 + 8 + 6);
        // the last piece has one post: it has no part in a second box
        C.due("a piece of one", Check.net(6, 0, 1).bound(), 18 + 8);
        // two pieces, each with one tie: two boxes for both
        C.due("two pieces", Check.net(10, 0, 1, 8, 9).bound(), 40 + 8);
        C.terms("II", "of each the least, over all partings of it into m BOXES at most, of the sum over its BOXES and each two of them of "
            + "the lesser of how many pairs are TIES, are none)");
        // 0 1, 2 3, 4: three boxes, none wrong (two: one wrong); the other piece has no part in them
        C.due("three boxes", Check.net(5, 0, 1, 2, 3).bound(), 15 + 12);
        C.due("three boxes, and a piece of three posts", Check.net(8, 0, 1, 2, 3).bound(), 24 + 12);
        // 0 2 and 1 3: two boxes, none wrong
        C.due("two boxes", Check.net(4, 0, 2, 1, 3).bound(), 8 + 8);
        // a net of three posts with one tie: two boxes (8), three would be 12, one 4 + 6
        C.due("three posts", Check.net(3, 0, 2).bound(), 6 + 8);
        C.due("two posts", Check.net(2, 0, 1).bound(), 2 + 4);
        C.terms("II", "(No TELLING of CROWDS, SIDES and EXCEPTS, all told, is shorter.)");
        for (int n = 2; n <= 16; n++) {
            // one box, told by a crowd or by none
            ToldNet full = Check.full(n);
            full.make(1);
            C.due("all ties of " + n, full.bound() <= full.length(0), true);
            ToldNet none = Check.net(n);
            none.make(1);
            C.due("no ties of " + n + ": as short as can be", none.bound(), none.length(0));
        }
    }

    private static void make() {
        C.promise(12, "A TELLING of THE NET is made, WORDS BY THE RULE: how 0 each POST alone, 1 all in one BOX, 2 THE RULE'S PARTING, 3 "
            + "THE LEAST, 4 THE COARSEST: its number.");
        ToldNet x = Check.net(5, 0, 1);
        int[] count = {5, 1, 2, 1, 2};
        for (int how = 0; how <= 4; how++) {
            C.due("number", x.make(how), how);
            C.due("boxes", x.count(10 + how), count[how]);
            C.due("of the net", x.unlike(how, 0), 0);
        }
        x.drop();
        x.tie(0, 1, false);
        x.mark(4, 3);
        C.due("number", x.make(4), 4);
        boxes("by marks", x, 4, 0, 0, 0, 0, 1);
    }

    private static void makeRefused() {
        C.promise(12, "NONE, and nothing happens: 5 are there, no such how, how 3 of more than 8 POSTS.");
        C.refused(TellingEdges::five, -1, x -> x.make(0), x -> x.make(1), x -> x.make(2), x -> x.make(3), x -> x.make(4));
        C.refused(TellingEdges::some, -1, x -> x.make(-1), x -> x.make(5), x -> x.make(LOW), x -> x.make(HIGH));
        for (int n = 7; n <= 16; n++) {
            ToldNet x = Check.net(n, 0, 1);
            C.due("the least of " + n, x.make(3), n <= 8 ? 0 : -1);
            C.due("tellings of " + n, x.count(4), n <= 8 ? 1 : 0);
        }
        C.refused(() -> Check.net(9, 0, 1), -1, x -> x.make(3));
        ToldNet x = five();
        x.drop();
        C.due("the fifth", x.make(0), 4);
        C.due("no sixth", x.make(0), -1);
    }

    private static void copies() {
        C.promise(13, "A copy of a TELLING: its number.");
        for (int t = 0; t < 3; t++) {
            ToldNet x = some();
            C.due("number", x.copy(t), 3);
            String[] tellings = Check.state(x).split("; ");
            C.due("alike", tellings[4], tellings[1 + t]);
            x.together(3, 0, x.count(13) - 1);
            x.leave(3, 0, true);
            C.due("the first one stays", Check.state(x).split("; ")[1 + t], tellings[1 + t]);
        }
    }

    private static void copyRefused() {
        C.promise(13, "NONE, and nothing happens: 5 are there, no such one.");
        C.refused(TellingEdges::five, -1, x -> x.copy(0), x -> x.copy(4), x -> x.copy(5), x -> x.copy(-1));
        C.refused(TellingEdges::some, -1, x -> x.copy(3), x -> x.copy(-1), x -> x.copy(LOW), x -> x.copy(HIGH), x -> x.copy(4));
        C.refused(ToldNet::new, -1, x -> x.copy(0), x -> x.copy(-1));
        C.due("of the last", some().copy(2), 3);
    }

    private static void drops() {
        C.promise(14, "The last TELLING goes: how many there are; NONE: there are none.");
        ToldNet x = five();
        String[] was = Check.state(x).split("; ");
        for (int left = 4; left >= 1; left--) {
            C.due("drop", x.drop(), left);
            C.due("gone", x.length(left), -1);
            C.due("the others stay", x.length(left - 1) > 0, true);
        }
        C.due("the first is left", Check.state(x).split("; ")[1], was[1]);
        C.due("drop", x.drop(), 0);
        C.due("none", x.drop(), -1);
        C.refused(ToldNet::new, -1, ToldNet::drop, ToldNet::drop);
    }

    private static void lengthOfNone() {
        C.promise(15, "LENGTH; NONE: no such TELLING.");
        C.refused(TellingEdges::some, -1, x -> x.length(3), x -> x.length(-1), x -> x.length(LOW), x -> x.length(HIGH),
            x -> x.length(4), x -> x.length(5));
        ToldNet x = some();
        // a chain; a crowd, sides, a star and a not; three alsos, one of which is left out (R 1 of two boxes)
        C.due("of 0", x.length(0), 8 + 4 + 4);
        C.due("of 1", x.length(1), 8 + 8 + 4 + 5 + 6 + 6);
        C.due("of 2", x.length(2), 8 + 16 + 12 + 4 + 4 + 1);
    }

    private static void boxOfNone() {
        C.promise(16, "The BOX of a POST in a TELLING; NONE: no such ones.");
        C.refused(TellingEdges::some, -1, x -> x.box(0, -1), x -> x.box(0, 4), x -> x.box(3, 0), x -> x.box(-1, 0),
            x -> x.box(0, LOW), x -> x.box(0, HIGH), x -> x.box(LOW, 0), x -> x.box(HIGH, 0), x -> x.box(0, 16));
        boxes("told", some(), 1, 0, 1, 0, 1);
        boxes("alone", some(), 2, 0, 1, 2, 3);
    }

    private static void rowOfNone() {
        C.promise(17, "The i-th POST in the ROW of a BOX; NONE: no such ones.");
        C.refused(TellingEdges::some, -1, x -> x.row(1, 0, 2), x -> x.row(1, 0, -1), x -> x.row(1, 2, 0), x -> x.row(1, -1, 0),
            x -> x.row(3, 0, 0), x -> x.row(-1, 0, 0), x -> x.row(2, 3, 1), x -> x.row(2, 4, 0), x -> x.row(0, 0, 4),
            x -> x.row(0, 1, 0), x -> x.row(LOW, 0, 0), x -> x.row(0, LOW, 0), x -> x.row(0, HIGH, 0), x -> x.row(0, 0, LOW),
            x -> x.row(0, 0, HIGH), x -> x.row(HIGH, 0, 0));
        int[] due = {2, 0, 3, 1};
        for (int i = 0; i < 4; i++) {
            C.due("row " + i / 2 + " " + i % 2, some().row(1, i / 2, i % 2), due[i]);
        }
        C.due("the last of the last box", some().row(2, 3, 0), 3);
    }

    private static void words() {
        C.promise(18, "Of the k-th WORD: what 0 its sort (0 CROWD, 1 SIDES, 2 STAR, 3 CHAIN), 1 its BOX (of SIDES the lesser one, of a STAR "
            + "its POST), 2 of SIDES the other BOX, of a STAR its BOX, else NONE.");
        ToldNet x = some();
        // box a (3 1) is box 1, box b (2 0) is box 0
        int[][] due = {{0, 1, -1}, {1, 0, 1}, {2, 1, 0}};
        for (int k = 0; k < 3; k++) {
            for (int what = 0; what < 3; what++) {
                C.due("word " + k + " " + what, x.word(1, k, what), due[k][what]);
            }
        }
        C.due("chain", x.word(0, 0, 0), 3);
        C.due("its box", x.word(0, 0, 1), 0);
        C.due("no other", x.word(0, 0, 2), -1);
    }

    private static void wordThrows() {
        C.promise(18, "NoSuchElementException: no such TELLING or WORD; IllegalArgumentException (behind that): another what.");
        ToldNet x = some();
        String was = Check.state(x);
        for (int t : new int[] {-1, 3, 5, LOW, HIGH}) {
            C.noSuch("telling " + t, () -> x.word(t, 0, 0));
            C.noSuch("telling " + t + ", whatever the what", () -> x.word(t, 0, 3));
        }
        for (int k : new int[] {-1, 3, LOW, HIGH, 120}) {
            C.noSuch("word " + k, () -> x.word(1, k, 0));
            C.noSuch("word " + k + ", whatever the what", () -> x.word(1, k, -1));
        }
        C.noSuch("no words", () -> x.word(2, 0, 0));
        C.noSuch("one word", () -> x.word(0, 1, 0));
        for (int what : new int[] {-1, 3, LOW, HIGH}) {
            C.badWhat("what " + what, () -> x.word(1, 0, what));
            C.badWhat("what " + what + " of the last", () -> x.word(1, 2, what));
        }
        C.due("nothing happens", Check.state(x), was);
    }

    private static void exceptThrows() {
        C.promise(19, "Of the k-th EXCEPT: what 0 the lesser POST, 1 the other, 2: 1 if it is SAID (not), else 0, 3: 1 if it is LEFT OUT, "
            + "else 0. It throws likewise.");
        ToldNet x = some();
        int[][] due = {{1, 3, 1, 0}, {0, 1, 0, 0}, {1, 2, 0, 1}, {2, 3, 0, 0}};
        for (int what = 0; what < 4; what++) {
            C.due("not " + what, x.except(1, 0, what), due[0][what]);
            for (int k = 0; k < 3; k++) {
                C.due("also " + k + " " + what, x.except(2, k, what), due[1 + k][what]);
            }
        }
        for (int t : new int[] {-1, 3, 5, LOW, HIGH}) {
            C.noSuch("telling " + t, () -> x.except(t, 0, 0));
            C.noSuch("telling " + t + ", whatever the what", () -> x.except(t, 0, 4));
        }
        for (int k : new int[] {-1, 3, LOW, HIGH, 120}) {
            C.noSuch("except " + k, () -> x.except(2, k, 0));
            C.noSuch("except " + k + ", whatever the what", () -> x.except(2, k, -1));
        }
        C.noSuch("no excepts", () -> x.except(0, 0, 0));
        C.noSuch("one except", () -> x.except(1, 1, 0));
        for (int what : new int[] {-1, 4, LOW, HIGH}) {
            C.badWhat("what " + what, () -> x.except(2, 2, what));
        }
    }

    private static void built() {
        C.promise(20, "1 if a TELLING BUILDS a TIE of two POSTS, else 0; NONE: no such ones, one and the same.");
        C.refused(TellingEdges::some, -1, x -> x.built(0, 0, 0), x -> x.built(0, 3, 3), x -> x.built(0, 0, 4), x -> x.built(0, 4, 0),
            x -> x.built(0, -1, 0), x -> x.built(0, 0, -1), x -> x.built(3, 0, 1), x -> x.built(-1, 0, 1), x -> x.built(0, LOW, 0),
            x -> x.built(0, 0, HIGH), x -> x.built(0, 32, 0), x -> x.built(0, 0, 32));
        ToldNet x = some();
        // sides all but 0 2 and 1 3; the crowd says 1 3, which is no tie
        String[] ties = {"0-1 1-2 2-3", "0-1 0-3 1-2 2-3", "0-1 1-2 2-3"};
        for (int t = 0; t < 3; t++) {
            for (int a = 0; a < 4; a++) {
                for (int b = a + 1; b < 4; b++) {
                    int due = ties[t].contains(a + "-" + b) ? 1 : 0;
                    C.due("built by " + t + " " + a + " " + b, x.built(t, a, b), due);
                    C.due("turned", x.built(t, b, a), due);
                }
            }
        }
    }

    private static void unlike() {
        C.promise(21, "How many pairs of what it BUILDS are not as in THE NET of a DAY; NONE: no such ones.");
        C.refused(TellingEdges::some, -1, x -> x.unlike(3, 0), x -> x.unlike(-1, 0), x -> x.unlike(0, 1), x -> x.unlike(0, -1),
            x -> x.unlike(0, LOW), x -> x.unlike(0, HIGH), x -> x.unlike(LOW, 0), x -> x.unlike(HIGH, 0));
        ToldNet x = some();
        int[] due = {0, 1, 0};
        for (int t = 0; t < 3; t++) {
            C.due("of today, " + t, x.unlike(t, 0), due[t]);
        }
        x.tomorrow();
        x.tie(0, 3, true);
        C.due("of day 0", x.unlike(1, 0), 1);
        C.due("of day 1", x.unlike(1, 1), 0);
        C.due("of day 1", x.unlike(0, 1), 1);
        C.due("no day 2", x.unlike(0, 2), -1);
        ToldNet all = Check.net(16);
        all.make(1);
        for (int a = 0; a < 16; a++) {
            for (int b = a + 1; b < 16; b++) {
                all.tie(a, b, true);
            }
        }
        C.due("all pairs", all.unlike(0, 0), 120);
    }

    private static void together() {
        C.promise(22, "Two BOXES are put together, WORDS BY THE RULE for what it BUILDS: LENGTH.");
        ToldNet x = some();
        int length = x.together(1, 0, 1);
        // a ring 0 1 2 3: a crowd with two nots
        C.due("its length", length, 8 + 4 + 4 + 12);
        C.due("told so", x.length(1), length);
        C.due("what it builds stays", x.unlike(1, 0), 1);
        C.due("one box", x.count(11), 1);
        C.due("the last two", x.together(2, 3, 2), 8 + 12 + 5 + 12);
        C.due("excepts told again", x.except(2, 1, 3), 0);
        for (int left = 2; left >= 1; left--) {
            x.together(2, left, left - 1);
            C.due("boxes", x.count(12), left);
        }
        C.due("no other is left", x.together(2, 0, 1), -1);
    }

    private static void togetherRefused() {
        C.promise(22, "NONE, and nothing happens: no such ones, one and the same.");
        C.refused(TellingEdges::some, -1, x -> x.together(1, 0, 2), x -> x.together(1, 2, 0), x -> x.together(1, -1, 0),
            x -> x.together(1, 0, -1), x -> x.together(1, 0, 0), x -> x.together(1, 1, 1), x -> x.together(3, 0, 1),
            x -> x.together(-1, 0, 1), x -> x.together(0, 0, 1), x -> x.together(2, 3, 4), x -> x.together(2, 2, 2),
            x -> x.together(LOW, 0, 1), x -> x.together(1, LOW, 1), x -> x.together(1, 1, HIGH), x -> x.together(1, 16, 0));
    }

    private static void apart() {
        C.promise(23, "A POST is taken out into a BOX of its own, likewise: LENGTH.");
        ToldNet x = some();
        // 3 alone, boxes 0 2, 1 and 3 of a ring: sides 0 2 with each of them
        C.due("its length", x.apart(1, 3), 8 + 12 + 7 + 7);
        C.due("boxes", x.count(11), 3);
        boxes("by least posts", x, 1, 0, 1, 0, 2);
        C.due("what it builds stays", x.unlike(1, 0), 1);
        C.due("it is alone", x.apart(1, 3), -1);
        C.due("the other one, too", x.apart(1, 1), -1);
        C.due("the least of a box", x.apart(1, 0), x.length(1));
        boxes("each alone", x, 1, 0, 1, 2, 3);
        x.leave(0, 0, true);
        C.due("of one box", x.apart(0, 0), x.length(0));
        boxes("0 alone", x, 0, 0, 1, 1, 1);
    }

    private static void apartRefused() {
        C.promise(23, "NONE, and nothing happens: no such ones, it is alone.");
        C.refused(TellingEdges::some, -1, x -> x.apart(2, 0), x -> x.apart(2, 3), x -> x.apart(0, 4), x -> x.apart(0, -1),
            x -> x.apart(3, 0), x -> x.apart(-1, 0), x -> x.apart(0, LOW), x -> x.apart(0, HIGH), x -> x.apart(LOW, 0),
            x -> x.apart(HIGH, 0), x -> x.apart(0, 16));
        ToldNet x = Check.net(2);
        x.make(1);
        C.due("of two", x.apart(0, 1), 2 + 8);
        C.due("both are alone", x.apart(0, 0) + x.apart(0, 1), -2);
    }

    private static void bound() {
        C.promise(24, "THE BOUND for THE NET.");
        C.due("of a new object", new ToldNet().bound(), 2 + 4);
        ToldNet x = Check.net(4, 0, 1);
        C.due("one tie", x.bound(), 8 + 8);
        x.tomorrow();
        x.tie(0, 1, false);
        C.due("of today", x.bound(), 8 + 4);
    }

    private static void bests() {
        C.promise(25, "How many partings of n POSTS (n as it is, 8 at most) have the least LENGTH; NONE: more POSTS.");
        for (int n = 2; n <= 16; n++) {
            // without ties all in one is the least alone
            C.due("no ties, " + n, Check.net(n).bests(), n <= 8 ? 1 : -1);
        }
        C.refused(() -> Check.net(9, 0, 1), -1, ToldNet::bests);
        C.due("two as long", Check.net(5, 0, 1).bests(), 2);
        C.due("two posts with a tie", Check.net(2, 0, 1).bests(), 1);
        // a crowd of 1 2 3 is the least alone, though longer ones ahead of it are alike
        C.due("alike ones that are longer do not count", Check.net(4, 1, 2, 1, 3, 2, 3).bests(), 1);
        ToldNet x = some();
        String was = Check.state(x);
        x.bests();
        x.bound();
        C.due("tellings stay", Check.state(x), was);
    }
}
