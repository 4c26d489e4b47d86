/** Promises 12 to 25: tellings made, their parts, put together and apart, the bound below. */
public final class TellingTests {
    private static final Check C = new Check();

    public static void main(String[] args) {
        make();
        rule();
        rulesParting();
        copyAndDrop();
        parts();
        throwing();
        builtAndUnlike();
        togetherAndApart();
        bounds();
        bests();
        C.finish("TellingTests");
    }

    private static void boxes(String what, ToldNet x, int t, int... due) {
        for (int p = 0; p < due.length; p++) {
            C.due(what + " box of " + p, x.box(t, p), due[p]);
        }
    }

    private static void word(String what, ToldNet x, int t, int k, int... due) {
        for (int i = 0; i < due.length; i++) {
            C.due(what + " word " + k + " " + i, x.word(t, k, i), due[i]);
        }
    }

    private static void make() {
        ToldNet x = Check.full(5);
        C.due("12 each alone", x.make(0), 0);
        C.due("12 all in one", x.make(1), 1);
        C.due("12 the rule's", x.make(2), 2);
        C.due("12 the least", x.make(3), 3);
        C.due("12 the coarsest", x.make(4), 4);
        C.due("15 alone", x.length(0), 15 + 20 + 10 * 8);
        for (int t = 1; t < 5; t++) {
            C.due("15 in one " + t, x.length(t), 15 + 4 + 4);
            C.due("12 one word " + t, x.count(20 + t), 1);
            word("12 crowd", x, t, 0, 0, 0, -1);
        }
        C.due("12 five are there", x.make(0), -1);
        C.due("12 still five", x.count(4), 5);
        x.drop();
        C.noneOf("12", x.make(-1), x.make(5), x.make(Integer.MAX_VALUE));
        C.due("12 nothing happens", x.count(4), 4);
        ToldNet nine = Check.net(9);
        C.due("12 least of nine", nine.make(3), -1);
        C.due("12 rule of nine", nine.make(2), 0);
        ToldNet eight = Check.net(8);
        C.due("12 least of eight", eight.make(3), 0);
        eight.mark(3, 1);
        C.due("12 by marks", eight.make(4), 1);
        C.due("12 two", eight.count(11), 2);
        C.due("12 box of 3", eight.box(1, 3), 1);
    }

    /** Words by the rule, told from the document by hand. */
    private static void rule() {
        // a path: no crowd, no star, a chain of its row
        ToldNet path = Check.net(5, 0, 1, 1, 2, 2, 3, 3, 4);
        path.make(1);
        C.due("15 path", path.length(0), 15 + 4 + 4);
        word("12 path", path, 0, 0, 3, 0, -1);
        // a hub: its star of the one box (8 * 5 less 3 + 3 + 1), no chain
        ToldNet hub = Check.net(6, 2, 0, 2, 1, 2, 3, 2, 4, 2, 5);
        hub.make(1);
        C.due("15 hub", hub.length(0), 18 + 4 + 7);
        C.due("12 hub's words", hub.count(20), 1);
        word("12 hub", hub, 0, 0, 2, 2, 0);
        // row: 0 has one tie as all but the hub; then the hub, then 1, 3, 4, 5
        int[] row = {0, 2, 1, 3, 4, 5};
        for (int i = 0; i < 6; i++) {
            C.due("17 hub's row " + i, hub.row(0, 0, i), row[i]);
        }
        // the row goes on with the least that has a tie, else with the least of all
        ToldNet rows = Check.net(6, 5, 1, 5, 0, 1, 3, 4, 3, 4, 1);
        rows.make(1);
        int[] due = {2, 0, 5, 1, 3, 4};
        for (int i = 0; i < 6; i++) {
            C.due("17 row " + i, rows.row(0, 0, i), due[i]);
        }
        // two sides that spare: 2 * 3 ties between {0, 1} and {2, 3, 4}
        ToldNet sides = Check.net(5, 0, 2, 0, 3, 0, 4, 1, 2, 1, 3, 1, 4);
        sides.make(3);
        C.due("12 sides", sides.count(10), 2);
        boxes("12 sides", sides, 0, 0, 0, 1, 1, 1);
        word("12 sides", sides, 0, 0, 1, 0, 1);
        C.due("15 sides", sides.length(0), 15 + 8 + 5);
        // a word that spares just nothing is not taken: E 4, one tie, a crowd of 4 bits (n 2, one box)
        ToldNet two = Check.net(2, 0, 1);
        two.make(1);
        C.due("12 spares nothing", two.count(20), 0);
        C.due("15 spares nothing", two.length(0), 2 + 4 + 4);
    }

    private static void rulesParting() {
        // two full groups of four: put together one by one, each a crowd
        ToldNet x = Check.net(8, 0, 2, 0, 4, 0, 6, 2, 4, 2, 6, 4, 6, 1, 3, 1, 5, 1, 7, 3, 5, 3, 7, 5, 7);
        x.make(2);
        boxes("12 groups", x, 0, 0, 1, 0, 1, 0, 1, 0, 1);
        C.due("15 groups", x.length(0), 24 + 8 + 2 * 4);
        ToldNet none = Check.net(6);
        none.make(2);
        C.due("12 none", none.count(10), 1);
        C.due("15 none", none.length(0), 18 + 4);
    }

    private static void copyAndDrop() {
        ToldNet x = Check.full(4);
        C.noneOf("14", x.drop());
        C.noneOf("13", x.copy(0));
        x.make(0);
        x.leave(0, 2, true);
        C.due("13 copy", x.copy(0), 1);
        C.due("13 length", x.length(1), x.length(0));
        C.due("13 left out too", x.except(1, 2, 3), 1);
        x.leave(1, 2, false);
        x.together(1, 0, 1);
        C.due("13 its own", x.count(10), 4);
        C.due("13 its own", x.except(0, 2, 3), 1);
        C.noneOf("13", x.copy(2), x.copy(-1));
        x.copy(1);
        x.copy(1);
        x.copy(1);
        C.due("13 five are there", x.copy(0), -1);
        C.due("14 drop", x.drop(), 4);
        C.due("14 gone", x.length(4), -1);
        C.due("13 there is room", x.copy(0), 4);
        for (int left = 4; left >= 0; left--) {
            C.due("14 drop", x.drop(), left);
        }
        C.due("14 none", x.drop(), -1);
    }

    private static void parts() {
        ToldNet x = Check.net(4, 0, 1, 2, 3);
        x.make(0);
        C.noneOf("15", x.length(1), x.length(-1), x.length(5), x.length(Integer.MIN_VALUE));
        C.noneOf("16", x.box(0, 4), x.box(0, -1), x.box(1, 0), x.box(-1, 0));
        C.noneOf("17", x.row(0, 4, 0), x.row(0, -1, 0), x.row(0, 0, 1), x.row(0, 0, -1), x.row(1, 0, 0));
        C.due("16 last", x.box(0, 3), 3);
        C.due("17 last", x.row(0, 3, 0), 3);
    }

    private static void throwing() {
        ToldNet x = Check.net(4, 0, 1, 1, 2, 2, 3);
        x.make(1);
        x.make(0);
        C.due("18 chain", x.word(0, 0, 0), 3);
        C.due("18 no other", x.word(0, 0, 2), -1);
        C.noSuch("18 no telling", () -> x.word(2, 0, 0));
        C.noSuch("18 no telling", () -> x.word(-1, 0, 9));
        C.noSuch("18 no word", () -> x.word(0, 1, 0));
        C.noSuch("18 no word", () -> x.word(0, -1, 7));
        C.noSuch("18 none at all", () -> x.word(1, 0, 0));
        C.badWhat("18 what", () -> x.word(0, 0, 3));
        C.badWhat("18 what", () -> x.word(0, 0, -1));
        C.noSuch("19 no telling", () -> x.except(2, 0, 0));
        C.noSuch("19 none at all", () -> x.except(0, 0, 0));
        C.noSuch("19 no except", () -> x.except(1, 3, 4));
        C.noSuch("19 no except", () -> x.except(1, -1, 0));
        C.badWhat("19 what", () -> x.except(1, 0, 4));
        C.badWhat("19 what", () -> x.except(1, 2, -1));
        int[][] due = {{0, 1, 0, 0}, {1, 2, 0, 0}, {2, 3, 0, 0}};
        for (int k = 0; k < 3; k++) {
            for (int what = 0; what < 4; what++) {
                C.due("19 except " + k + " " + what, x.except(1, k, what), due[k][what]);
            }
        }
        x.leave(1, 1, true);
        C.due("19 left out", x.except(1, 1, 3), 1);
        C.due("19 told", x.except(1, 2, 3), 0);
    }

    private static void builtAndUnlike() {
        ToldNet x = Check.net(4, 0, 1);
        x.make(1);
        x.leave(0, 0, true);
        C.due("20 built, though left out", x.built(0, 1, 0), 1);
        C.due("20 not built", x.built(0, 1, 2), 0);
        C.noneOf("20", x.built(0, 1, 1), x.built(0, 0, 4), x.built(0, -1, 0), x.built(1, 0, 1));
        x.tomorrow();
        x.tie(0, 1, false);
        x.tie(2, 3, true);
        C.due("21 day 0", x.unlike(0, 0), 0);
        C.due("21 day 1", x.unlike(0, 1), 2);
        C.noneOf("21", x.unlike(0, 2), x.unlike(0, -1), x.unlike(1, 0), x.unlike(-1, 0));
    }

    private static void togetherAndApart() {
        ToldNet x = Check.full(4);
        x.make(0);
        x.net(4);
        C.noneOf("22 no telling", x.together(0, 0, 1), x.apart(0, 0));
        ToldNet y = Check.full(4);
        y.make(0);
        y.leave(0, 0, true);
        y.tomorrow();
        y.tie(0, 1, false);
        C.noneOf("22", y.together(0, 0, 0), y.together(0, 0, 4), y.together(0, -1, 0), y.together(1, 0, 1));
        C.due("22 nothing happens", y.except(0, 0, 3), 1);
        // {2, 0} 1 3: a crowd of two spares 6 less 5, sides of two 12 less 7 each, 1 3 by itself (6 less 7)
        C.due("22 of what it builds", y.together(0, 2, 0), 8 + 12 + 5 + 7 + 7 + 6);
        boxes("22", y, 0, 0, 1, 0, 2);
        C.due("22 words", y.count(20), 3);
        C.due("22 all told", y.except(0, 0, 3), 0);
        C.due("22 builds the same", y.unlike(0, 0), 0);
        // {0, 2, 3} 1: a crowd 18 less 4, sides 18 less 5
        C.due("22 again", y.together(0, 0, 2), 8 + 8 + 4 + 5);
        boxes("22 again", y, 0, 0, 1, 0, 0);
        C.noneOf("23", y.apart(0, 1), y.apart(0, 4), y.apart(0, -1), y.apart(1, 0));
        C.due("23 apart", y.apart(0, 0), 8 + 12 + 5 + 7 + 7 + 6);
        boxes("23 apart", y, 0, 0, 1, 2, 2);
        C.due("23 again", y.apart(0, 3), 8 + 16 + 36);
        C.due("23 alone", y.apart(0, 3), -1);
        C.due("23 builds the same", y.unlike(0, 0), 0);
    }

    private static void bounds() {
        C.due("24 two posts", new ToldNet().bound(), 2 + 4);
        C.due("24 none", Check.net(16).bound(), 64 + 4);
        C.due("24 all", Check.full(16).bound(), 64 + 4);
        // 0 1 2 full, 3 apart: one box has 3 wrong pairs, two have none
        C.due("24 two boxes", Check.net(4, 0, 1, 0, 2, 1, 2).bound(), 8 + 8);
        // one tie: one box has 1 wrong pair (4 + 8), two have one too, three none (12)
        C.due("24 one box", Check.net(5, 0, 1).bound(), 15 + 8);
        C.due("24 ties of two pieces do not count", Check.net(10, 0, 5, 1, 6, 2, 7).bound(), 40 + 4);
        // the piece 5 .. 9: a path of three and two alone
        C.due("24 second piece", Check.net(10, 5, 6, 6, 7).bound(), 40 + 12);
        C.due("24 post 15", Check.net(16, 15, 14, 15, 13, 15, 0).bound(), 64 + 4);
    }

    private static void bests() {
        C.due("25 all", Check.full(5).bests(), 1);
        C.due("25 none", Check.net(8).bests(), 1);
        C.due("25 nine", Check.net(9).bests(), -1);
        C.due("25 sixteen", Check.net(16).bests(), -1);
        ToldNet x = Check.full(3);
        x.make(3);
        C.due("25 changes nothing", x.bests(), 1);
        C.due("25 changes nothing", x.length(0), 6 + 4 + 4);
        // E 4: one box 2 + 4 + 4, each alone 2 + 8 + 4
        C.due("25 two", Check.net(2, 0, 1).bests(), 1);
    }
}
