/** Promises 35 to 43, 45 and 46: alike posts, tellings mended and compared, lines, sentences, chance. */
public final class OrderTests {
    private static final Check C = new Check();

    public static void main(String[] args) {
        coarsest();
        nearly();
        mend();
        broken();
        brokenChains();
        line();
        sentences();
        odds();
        chance();
        C.finish("OrderTests");
    }

    private static void coarsest() {
        ToldNet path = Check.net(5, 0, 1, 1, 2, 2, 3, 3, 4);
        int[] due = {0, 1, 2, 1, 0};
        C.due("35 path", path.rounds(), 2);
        for (int p = 0; p < 5; p++) {
            C.due("36 path " + p, path.coarsest(p), due[p]);
        }
        C.noneOf("36", path.coarsest(5), path.coarsest(-1), path.coarsest(16));
        path.mark(4, 1);
        C.due("35 marked", path.rounds(), 2);
        for (int p = 0; p < 5; p++) {
            C.due("36 marked " + p, path.coarsest(p), p);
        }
        ToldNet ring = Check.net(6, 0, 1, 1, 2, 2, 3, 3, 4, 4, 5, 5, 0);
        C.due("35 ring", ring.rounds(), 0);
        C.due("36 ring", ring.coarsest(5), 0);
        ring.mark(0, 2);
        ring.mark(3, 2);
        C.due("35 ring with marks", ring.rounds(), 0);
        C.due("36 numbered by the least", ring.coarsest(1), 1);
        C.due("36 together", ring.coarsest(3), 0);
        // a round parts all boxes at once, by the boxes as they were ahead of it
        ToldNet long7 = Check.net(7, 0, 1, 1, 2, 2, 3, 3, 4, 4, 5, 5, 6);
        C.due("35 long path", long7.rounds(), 3);
        long7.tomorrow();
        long7.tie(6, 0, true);
        C.due("35 of today", long7.rounds(), 0);
    }

    private static void nearly() {
        ToldNet hub = Check.net(4, 0, 1, 0, 2, 0, 3);
        int[][] due = {{0, 1, 1, 1}, {0, 1, 1, 1}, {0, 0, 0, 0}};
        for (int k = 0; k < 3; k++) {
            for (int p = 0; p < 4; p++) {
                C.due("37 nearly " + k + " of " + p, hub.nearly(k, p), due[k][p]);
            }
        }
        hub.mark(2, 1);
        C.due("37 its mark", hub.nearly(14, 2), 1);
        C.due("37 the first box", hub.nearly(14, 3), 0);
        C.due("37 as they were begun", hub.nearly(0, 2), 2);
        C.noneOf("37", hub.nearly(-1, 0), hub.nearly(15, 0), hub.nearly(0, 4), hub.nearly(0, -1));
        // all of a box's posts count: 0 and 1 are near, 1 and 2 are, 0 and 2 are not
        ToldNet x = Check.net(6, 0, 3, 1, 3, 1, 4, 2, 4);
        C.due("37 with 0", x.nearly(1, 1), 0);
        C.due("37 not with 0", x.nearly(1, 2), 1);
        // the tie of the two does not count
        ToldNet two = Check.net(2, 0, 1);
        C.due("37 two", two.nearly(0, 1), 0);
    }

    private static void mend() {
        ToldNet x = Check.full(5);
        x.make(1);
        C.due("38 it built it", x.mend(0), 0);
        x.tomorrow();
        x.tie(0, 1, false);
        C.due("38 mended", x.mend(0), 1);
        C.due("38 except", x.except(0, 0, 2), 1);
        C.due("38 length", x.length(0), 15 + 4 + 4 + 8);
        x.leave(0, 0, true);
        C.due("38 built, but left out", x.mend(0), 0);
        C.due("38 all told", x.except(0, 0, 3), 0);
        x.tie(0, 1, true);
        C.due("38 mended back", x.mend(0), 1);
        C.due("38 no excepts", x.count(30), 0);
        x.make(0);
        C.due("38 made anew", x.mend(1), 2);
        C.due("38 by the rule", x.length(1), 23);
        C.due("38 boxes", x.count(11), 1);
        C.noneOf("38", x.mend(2), x.mend(-1));
        // words and rows stay, though the rule's telling is as long
        ToldNet y = Check.full(3);
        Check.read(y, "box a 2 0 1;crowd a;");
        C.due("38 rows", y.mend(0), 0);
        C.due("38 rows stay", y.row(0, 0, 0), 2);
        Check.read(y, "box a 2 0 1;crowd a;star 0 a;");
        C.due("38 shorter, though it built it", y.mend(1), 2);
        C.due("38 the rule's row", y.row(1, 0, 0), 0);
        C.due("38 the rule's words", y.count(21), 1);
    }

    private static void broken() {
        ToldNet x = Check.net(6);
        Check.read(x, "box a 0 1 2;box b 3 4 5;crowd a;crowd b;sides a b;star 3 a;star 0 b;star 0 a;");
        Check.read(x, "box c 0 1 2;box d 3 4;box e 5;crowd c;sides c d;star 3 c;star 0 d;");
        C.due("39 the first from itself", x.broken(0, 0), 0);
        // crowd b, sides a b, star 0 b, star 0 a
        C.due("39 from the first", x.broken(0, 1), 4);
        // sides c d, star 0 d
        C.due("39 from the second", x.broken(1, 0), 2);
        C.noneOf("39", x.broken(0, 2), x.broken(2, 0), x.broken(-1, 0));
        x.make(0);
        C.due("39 no words", x.broken(2, 0), 0);
        C.due("39 all words", x.broken(0, 2), 6);
        // boxes of other numbers with the same posts
        Check.read(x, "box a 1 3;box b 0 5;box c 2 4;crowd a;sides b c;");
        Check.read(x, "box a 3 1;box b 2 4;box c 0;box d 5;crowd a;chain b;");
        C.due("39 by posts", x.broken(3, 4), 1);
        C.due("39 by posts", x.broken(4, 3), 1);
    }

    private static void brokenChains() {
        ToldNet x = Check.net(4);
        Check.read(x, "box a 0 2 1;box b 3;chain a;");
        Check.read(x, "box a 1 2 0;box b 3;chain a;");
        Check.read(x, "box a 0 1 2;box b 3;chain a;");
        Check.read(x, "box a 0 2 1 3;chain a;");
        Check.read(x, "box a 0 2 1;box b 3;crowd a;");
        C.due("39 from either end", x.broken(0, 1), 0);
        C.due("39 another row", x.broken(0, 2), 1);
        C.due("39 a longer row", x.broken(0, 3), 1);
        C.due("39 another sort", x.broken(0, 4), 1);
    }

    private static void line() {
        ToldNet path = Check.net(5, 0, 2, 2, 4, 4, 1, 1, 3);
        path.make(0);
        C.due("40 path", path.line(0), 4);
        int[] due = {0, 2, 4, 1, 3};
        for (int i = 0; i < 5; i++) {
            C.due("41 path " + i, path.at(0, i), due[i]);
        }
        C.noneOf("41", path.at(0, 5), path.at(0, -1), path.at(1, 0));
        C.noneOf("40", path.line(1), path.line(-1));
        // a hub: 1 and 2 on both sides of it, as near as can be, the first by numbers
        ToldNet hub = Check.net(5, 4, 0, 4, 1, 4, 2, 4, 3);
        hub.make(0);
        C.due("40 hub", hub.line(0), 6);
        int[] first = {0, 1, 4, 2, 3};
        for (int i = 0; i < 5; i++) {
            C.due("41 hub " + i, hub.at(0, i), first[i]);
        }
        // of what is built, and of boxes: {0 1} {2 3} {4}: two ties of the first and the last
        ToldNet x = Check.net(5);
        Check.read(x, "box a 0 1;box b 2 3;box c 4;crowd a;sides a c;also 2 4;");
        C.due("40 boxes", x.line(0), 3);
        C.due("41 boxes", x.at(0, 0) * 100 + x.at(0, 1) * 10 + x.at(0, 2), 21);
        ToldNet nine = Check.net(9, 0, 1);
        nine.make(0);
        C.due("40 nine", nine.line(0), -2);
        C.due("41 nine", nine.at(0, 0), -1);
        nine.together(0, 0, 1);
        C.due("40 eight", nine.line(0), 0);
        C.due("41 eight", nine.at(0, 7), 7);
    }

    private static void sentences() {
        ToldNet x = Check.net(5);
        Check.read(x, "box a 0 1 2;box b 3 4;crowd a;sides a b;star 0 b;chain b;");
        int[] word = {1, 0, 3, 2};
        int[] spare = {8 * 6 - 5, 8 * 3 - 4, 8 - 4, -7};
        for (int i = 0; i < 4; i++) {
            C.due("42 sentence " + i, x.sentence(0, i), word[i]);
            C.due("43 spares " + i, x.spares(0, i), spare[i]);
        }
        C.noneOf("42", x.sentence(0, 4), x.sentence(0, -1), x.sentence(1, 0), x.sentence(-1, 0));
        for (int bad : new int[] {x.spares(0, 4), x.spares(0, -1), x.spares(1, 0), x.spares(-1, 0)}) {
            C.due("43 none", bad, -100000);
        }
        // by the net that it builds, not by the words alone; alike ones by number
        ToldNet y = Check.net(4);
        Check.read(y, "box a 0 1;box b 2 3;crowd a;crowd b;sides a b;not 0 2;not 0 3;not 1 3;");
        C.due("42 first", y.sentence(0, 0), 0);
        C.due("43 first", y.spares(0, 0), 6 - 4);
        C.due("42 second", y.sentence(0, 1), 1);
        C.due("42 third", y.sentence(0, 2), 2);
        C.due("43 third", y.spares(0, 2), -12 - 5);
        x.make(0);
        C.due("42 no words", x.sentence(1, 0), -1);
        C.due("43 no words", x.spares(1, 0), -100000);
    }

    private static void odds() {
        ToldNet all = Check.full(5);
        all.make(0);
        C.due("45 no other net can be", all.odds(0, 3, 40), 40);
        C.due("45 one", all.odds(0, Integer.MAX_VALUE, 1), 1);
        C.noneOf("45", all.odds(0, 0, 0), all.odds(0, 0, 41), all.odds(0, 0, -1), all.odds(1, 0, 1), all.odds(-1, 0, 1));
        ToldNet none = Check.net(5);
        none.make(1);
        C.due("45 no ties", none.odds(0, 3, 7), 7);
        ToldNet ring = ring();
        ring.make(1);
        int sum = 0;
        for (int i = 0; i < 6; i++) {
            sum += ring.odds(0, Integer.MAX_VALUE - 2 + i, 1);
        }
        C.due("45 seeds one by one", ring.odds(0, Integer.MAX_VALUE - 2, 6), sum);
        // against THE NET told by its boxes, whatever the telling told
        ring.tie(0, 4, true);
        ring.tie(0, 4, false);
        ring.leave(0, 0, true);
        C.due("45 words by the rule", ring.odds(0, 5, 20), 10);
    }

    private static ToldNet ring() {
        ToldNet x = Check.net(9);
        for (int p = 0; p < 9; p++) {
            x.tie(p, (p + 1) % 9, true);
        }
        return x;
    }

    private static int lot(int seed, int which, int n) {
        int h = (seed ^ 5) * 1103515245 + 12345;
        h = h ^ (h >>> 15);
        h = (h ^ which) * 1103515245 + 12345;
        h = h ^ (h >>> 15);
        return (h >>> 1) % n;
    }

    /** Two ties of four posts: each change can be told by hand. */
    private static void chance() {
        for (int seed = -20; seed < 20; seed++) {
            ToldNet x = Check.net(4, 0, 1, 2, 3);
            // the partner of post 0, then that of the next post
            int partner = 1;
            for (int k = 0; k < 8; k++) {
                int first = lot(seed, 2 * k, 2);
                int half = lot(seed, 2 * k + 1, 4);
                if (half / 2 != first) {
                    int next = partner == 1 ? 2 : 1;
                    int other = 6 - partner - next;
                    // a b and c d become a d and c b: the least goes with the greatest, or, turned, with the middle one
                    boolean turned = half % 2 == 1;
                    partner = turned ? next : other;
                }
            }
            for (int p = 1; p < 4; p++) {
                C.due("46 seed " + seed + " post " + p, x.chance(seed, p, 0), p == partner ? 1 : 0);
            }
            C.due("46 nothing happens", x.tied(0, 1, 0), 1);
        }
        ToldNet x = ring();
        C.noneOf("46", x.chance(0, 1, 1), x.chance(0, 9, 1), x.chance(0, 1, -1));
        for (int seed = 100; seed < 104; seed++) {
            int ends = 0;
            for (int p = 1; p < 9; p++) {
                ends += x.chance(seed, 0, p);
            }
            C.due("46 as many ties of a post", ends, 2);
        }
        C.due("46 one tie", Check.net(2, 0, 1).chance(9, 0, 1), 1);
        C.due("46 no tie", Check.net(2).chance(9, 0, 1), 0);
    }
}
