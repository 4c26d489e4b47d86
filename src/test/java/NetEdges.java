/** Promises 1 to 9, 44 and 47 at their edges: each method is about one sentence of the document. */
public final class NetEdges {
    private static final Check C = new Check();
    private static final int LOW = Integer.MIN_VALUE;
    private static final int HIGH = Integer.MAX_VALUE;

    public static void main(String[] args) {
        calls512();
        postsAtFirst();
        changesAtMost();
        todayAtMost();
        netOfADay();
        marksAtFirst();
        newObject();
        bytesInTheirOrder();
        tapeFull();
        bytesGo();
        tapeTooShort();
        netAnew();
        netOfOtherSizes();
        tieComesOrGoes();
        tieRefused();
        oneDayMore();
        markRefused();
        markBecomes();
        tiesOfNone();
        tiedOrNot();
        compareDays();
        counts();
        countsOfTellings();
        C.finish("NetEdges");
    }

    /** A net of four posts with all that can be told of it. */
    private static ToldNet some() {
        ToldNet x = Check.net(4, 0, 1, 1, 2);
        x.tomorrow();
        x.tie(2, 3, true);
        x.mark(3, 2);
        x.reader(1, 0, 0, 2);
        x.make(1);
        Check.feed(x, "box a 0 1 2 3;");
        return x;
    }

    private static void calls512() {
        C.terms("", "An object is used for at most 512 calls after it has been made");
        ToldNet x = new ToldNet();
        for (int i = 0; i < 300; i++) {
            C.due("change", x.tie(0, 1, i % 2 == 0), i);
        }
        for (int day = 1; day <= 40; day++) {
            C.due("day", x.tomorrow(), day);
        }
        for (int i = 1; i <= 100; i++) {
            C.due("tape", x.feed(0x20202020, 0x20202020, 0x20202020, 0x20202020, 0x20202020), 20 * i);
        }
        for (int i = 0; i < 10; i++) {
            C.due("question", x.reader(0, 0, 1, 1), i);
        }
        for (int t = 0; t < 5; t++) {
            C.due("telling", x.make(t), t);
        }
        for (int i = 455; i < 511; i++) {
            C.due("refused", x.feed(0, 0, 0, 0, 0), -1);
        }
        C.due("call 512", x.count(3), 300);
        for (int i = 0; i < 1000; i++) {
            // what these answer is free, but they answer
            x.tie(0, 1, i % 2 == 0);
            x.feed(i, i, i, i, i);
            x.make(i % 5);
            x.read();
        }
    }

    private static void postsAtFirst() {
        C.terms("I", "POSTS 0 .. n - 1 (n of 2 .. 16, 2 at first)");
        ToldNet x = new ToldNet();
        C.due("posts", x.count(0), 2);
        C.due("post 1", x.ties(1, 0), 0);
        C.due("post 2", x.ties(2, 0), -1);
        for (int n = 2; n <= 16; n++) {
            C.due("net of " + n, x.net(n), true);
            C.due("posts", x.count(0), n);
            C.due("the last of " + n, x.ties(n - 1, 0), 0);
            C.due("behind the last of " + n, x.ties(n, 0), -1);
            C.due("tie of the last two", x.tie(n - 2, n - 1, true), 0);
            C.due("tie with none", x.tie(n - 1, n, true), -1);
        }
    }

    private static ToldNet fullOfChanges() {
        ToldNet x = Check.net(3);
        for (int i = 0; i < 300; i++) {
            x.tie(0, 1, i % 2 == 0);
        }
        return x;
    }

    private static void changesAtMost() {
        C.terms("I", "A CHANGE (300 at most, numbered from 0 on): a TIE comes or goes");
        ToldNet x = Check.net(3);
        for (int i = 0; i < 299; i++) {
            C.due("change", x.tie(0, 1, i % 2 == 0), i);
        }
        C.due("299 are there", x.count(3), 299);
        x.tomorrow();
        C.due("the last change, of another day", x.tie(1, 2, true), 299);
        C.due("300 are there", x.count(3), 300);
        x.tomorrow();
        C.due("no 301st, on a new day either", x.tie(0, 2, true), -1);
        C.due("nor one that goes", x.tie(1, 2, false), -1);
        C.due("300 are there", x.count(3), 300);
        C.due("none came", x.tied(0, 2, 2), 0);
        C.due("none went", x.tied(1, 2, 2), 1);
        x.net(3);
        C.due("numbered from 0 on again", x.tie(0, 2, true), 0);
    }

    private static void todayAtMost() {
        C.terms("I", "TODAY (0 at first, 40 at most)");
        ToldNet x = new ToldNet();
        C.due("at first", x.count(2), 0);
        for (int day = 1; day <= 40; day++) {
            C.due("tomorrow", x.tomorrow(), day);
        }
        C.due("no day 41", x.tomorrow(), -1);
        C.due("today", x.count(2), 40);
        C.due("a change of day 40", x.tie(0, 1, true), 0);
        C.due("on day 40", x.tied(0, 1, 40), 1);
        C.due("on day 39", x.tied(0, 1, 39), 0);
        x.net(2);
        C.due("after net", x.count(2), 0);
        C.due("no day 1", x.tied(0, 1, 1), -1);
    }

    private static void netOfADay() {
        C.terms("I", "THE NET of a DAY (0 .. TODAY): the TIES that are there behind all CHANGES up to that DAY");
        ToldNet x = Check.net(3);
        C.due("day 1 ahead of it", x.tied(0, 1, 1), -1);
        x.tie(0, 1, true);
        x.tie(0, 1, false);
        x.tie(0, 1, true);
        x.tomorrow();
        x.tomorrow();
        x.tie(0, 1, false);
        int[] due = {-1, 1, 1, 0, -1};
        for (int day = -1; day <= 3; day++) {
            C.due("day " + day, x.tied(0, 1, day), due[day + 1]);
        }
        x.tie(0, 1, true);
        C.due("behind all changes of the day", x.tied(1, 0, 2), 1);
    }

    private static void marksAtFirst() {
        C.terms("I", "Each POST has a MARK 0 .. 3 (0 at first).");
        for (int p = 0; p < 2; p++) {
            for (int v = 0; v <= 3; v++) {
                ToldNet x = new ToldNet();
                C.due("mark " + v, x.mark(p, v), true);
                C.due("the other has 0", x.coarsest(1), v == 0 ? 0 : 1);
                C.due("the same for both", x.mark(1 - p, v), true);
                C.due("together", x.coarsest(1), 0);
            }
        }
        C.due("no mark 4", new ToldNet().mark(0, 4), false);
    }

    private static void newObject() {
        C.promise(1, "Two POSTS without a TIE; no TELLINGS.");
        ToldNet x = new ToldNet();
        C.due("all", Check.state(x), "counts 2 0 0 0 0 0 0, fault at -1, ties 0, marks 0 0");
        C.due("a tie that goes", x.tie(0, 1, false), -1);
        C.due("telling 0", x.length(0), -1);
        C.due("drop", x.drop(), -1);
        C.due("no text yet", x.back(1), -1);
        C.due("one each", new ToldNet().tie(0, 1, true), 0);
        C.due("not of another object", x.tied(0, 1, 0), 0);
    }

    private static void bytesInTheirOrder() {
        C.promise(2, "Twenty bytes, the highest of a first, come behind the tape: how many it has.");
        for (int at = 0; at < 20; at++) {
            for (int sign : new int[] {0x80, 0xff, 0}) {
                int[] fours = new int[5];
                for (int i = 0; i < 20; i++) {
                    fours[i / 4] = fours[i / 4] << 8 | (i == at ? sign : ' ');
                }
                ToldNet x = new ToldNet();
                x.feed(0x20202020, 0x20202020, 0x20202020, 0x20202020, 0x20202020);
                C.due("how many", x.feed(fours[0], fours[1], fours[2], fours[3], fours[4]), 40);
                C.due("no token " + sign, x.read(), 1);
                C.due("its place", x.place(), 20 + at);
            }
        }
    }

    private static void tapeFull() {
        C.promise(2, "NONE, and nothing comes, if it would have more than 2,000.");
        ToldNet x = new ToldNet();
        Check.feed(x, "box a 1 0;crowd a;  ");
        for (int i = 2; i <= 100; i++) {
            C.due("feed", x.feed(0x20202020, 0x20202020, 0x20202020, 0x20202020, 0x20202020), 20 * i);
        }
        C.due("2,020", x.feed(0, 0, 0, 0, 0), -1);
        C.due("has", x.count(6), 2000);
        C.due("one goes", x.back(1), 1999);
        C.due("2,019", x.feed(0, 0, 0, 0, 0), -1);
        C.due("18 more go", x.back(18), 1981);
        C.due("2,001", x.feed(0, 0, 0, 0, 0), -1);
        C.due("has", x.count(6), 1981);
        C.due("one more goes", x.back(1), 1980);
        C.due("2,000", x.feed(0x20202020, 0x20202020, 0x20202020, 0x20202020, 0x20202020), 2000);
        C.due("2,020", x.feed(LOW, LOW, LOW, LOW, LOW), -1);
        C.due("nothing came", x.read(), 0);
    }

    private static void bytesGo() {
        C.promise(3, "The last n bytes of the tape go: how many it has.");
        ToldNet x = new ToldNet();
        C.due("none of none", x.back(0), 0);
        Check.feed(x, "box a 0 1;!!!!!!!!!!");
        C.due("none", x.back(0), 20);
        C.due("one", x.back(1), 19);
        C.due("nine", x.back(9), 10);
        Check.feed(x, "crowd a;  ");
        C.due("behind what is left", x.count(6), 20);
        C.due("none of the wrong signs", x.read(), 0);
        Check.feed(x, "!!!!!!!!!!!!!!!!!!!!");
        C.due("all", x.back(20), 0);
        C.due("an empty text", x.read(), 6);
    }

    private static void tapeTooShort() {
        C.promise(3, "NONE, and nothing goes, if it has not so many, or n is below 0.");
        C.refused(ToldNet::new, -1, x -> x.back(1), x -> x.back(-1), x -> x.back(HIGH), x -> x.back(LOW));
        ToldNet x = new ToldNet();
        Check.feed(x, "box a 0 1;");
        C.due("one too many", x.back(11), -1);
        C.due("below 0", x.back(-1), -1);
        C.due("far below 0", x.back(LOW), -1);
        C.due("far too many", x.back(HIGH), -1);
        C.due("nothing goes", x.count(6), 10);
        C.due("as it was", x.read(), 0);
        Check.feed(x, "box a 0 1;");
        C.due("as many as it has", x.back(10), 0);
        C.due("not so many any more", x.back(1), -1);
    }

    private static void netAnew() {
        C.promise(4, "A NET of n POSTS (2 .. 16) without TIES, TODAY 0, MARKS 0; no CHANGES, no TELLINGS, no QUESTIONS of THE "
            + "READER: true");
        for (int n = 2; n <= 6; n++) {
            ToldNet x = some();
            C.due("net", x.net(n), true);
            ToldNet y = new ToldNet();
            y.net(n);
            Check.feed(y, "box a 0 1 2 3;");
            C.due("anew", Check.state(x), Check.state(y));
            C.due("no day 1", x.tied(0, 1, 1), -1);
            C.due("no telling", x.drop(), -1);
        }
        ToldNet x = Check.net(16, 0, 15, 14, 15);
        x.mark(15, 3);
        C.due("16 of 16", x.net(16), true);
        C.due("ties", x.count(1), 0);
        C.due("marks", x.coarsest(15), 0);
    }

    private static void netOfOtherSizes() {
        C.promise(4, "false for others.");
        C.refused(NetEdges::some, 0, x -> x.net(1) ? 1 : 0, x -> x.net(0) ? 1 : 0, x -> x.net(-1) ? 1 : 0,
            x -> x.net(17) ? 1 : 0, x -> x.net(18) ? 1 : 0, x -> x.net(LOW) ? 1 : 0, x -> x.net(HIGH) ? 1 : 0,
            x -> x.net(-2) ? 1 : 0, x -> x.net(1 << 16 | 4) ? 1 : 0);
    }

    private static void tieComesOrGoes() {
        C.promise(5, "A TIE comes (is) or goes: its CHANGE.");
        ToldNet x = Check.net(16);
        int change = 0;
        for (int a = 0; a < 16; a++) {
            for (int b = a + 1; b < 16; b++) {
                C.due("comes", x.tie(b, a, true), change);
                change++;
            }
        }
        C.due("all pairs", x.count(1), 120);
        C.due("goes", x.tie(0, 15, false), 120);
        C.due("one less", x.count(1), 119);
        C.due("of post 15", x.ties(15, 0), 14);
    }

    private static void tieRefused() {
        C.promise(5, "NONE, and nothing happens: 300 are there, no such POSTS, one and the same, it is so already.");
        C.refused(NetEdges::fullOfChanges, -1, x -> x.tie(0, 1, true), x -> x.tie(1, 2, true), x -> x.tie(0, 1, false));
        C.refused(NetEdges::some, -1, x -> x.tie(-1, 0, true), x -> x.tie(0, -1, true), x -> x.tie(4, 0, true),
            x -> x.tie(0, 4, true), x -> x.tie(4, 5, true), x -> x.tie(LOW, 0, true), x -> x.tie(0, HIGH, true),
            x -> x.tie(0, 32, true), x -> x.tie(-1, -1, true), x -> x.tie(15, 16, false), x -> x.tie(16, 0, true));
        C.refused(NetEdges::some, -1, x -> x.tie(0, 0, true), x -> x.tie(3, 3, true), x -> x.tie(3, 3, false));
        C.refused(NetEdges::some, -1, x -> x.tie(0, 1, true), x -> x.tie(1, 0, true), x -> x.tie(3, 2, true),
            x -> x.tie(0, 3, false), x -> x.tie(3, 0, false));
        ToldNet x = some();
        C.due("not so yet", x.tie(0, 3, true), 3);
        C.due("so now", x.tie(3, 0, true), -1);
    }

    private static void oneDayMore() {
        C.promise(6, "TODAY is one more: it; NONE, and nothing happens: it is 40.");
        Check.Maker day40 = () -> {
            ToldNet x = Check.net(3, 0, 1);
            for (int day = 1; day <= 40; day++) {
                C.due("today", x.tomorrow(), day);
            }
            return x;
        };
        C.refused(day40, -1, ToldNet::tomorrow, ToldNet::tomorrow);
        ToldNet x = day40.made();
        x.tomorrow();
        C.due("no day 41", x.ties(0, 41), -1);
        C.due("day 40", x.ties(0, 40), 1);
    }

    private static void markRefused() {
        C.promise(7, "true; false: no such ones.");
        C.refused(NetEdges::some, 0, x -> x.mark(-1, 1) ? 1 : 0, x -> x.mark(4, 1) ? 1 : 0, x -> x.mark(0, -1) ? 1 : 0,
            x -> x.mark(0, 4) ? 1 : 0, x -> x.mark(LOW, 0) ? 1 : 0, x -> x.mark(HIGH, 0) ? 1 : 0,
            x -> x.mark(0, LOW) ? 1 : 0, x -> x.mark(0, HIGH) ? 1 : 0, x -> x.mark(16, 1) ? 1 : 0);
        C.due("of the last post", some().mark(3, 3), true);
        C.due("as it is already", some().mark(3, 2), true);
    }

    private static void markBecomes() {
        C.promise(7, "A POST's MARK becomes v");
        ToldNet x = Check.net(16);
        for (int v = 0; v <= 3; v++) {
            C.due("mark", x.mark(15, v), true);
            C.due("parts it", x.coarsest(15), v == 0 ? 0 : 1);
        }
        C.due("back to 0", x.mark(15, 0), true);
        C.due("together", x.coarsest(15), 0);
    }

    private static void tiesOfNone() {
        C.promise(8, "How many TIES a POST has on a DAY; NONE: no such ones.");
        ToldNet x = some();
        C.refused(NetEdges::some, -1, y -> y.ties(-1, 0), y -> y.ties(4, 0), y -> y.ties(0, -1), y -> y.ties(0, 2),
            y -> y.ties(LOW, 0), y -> y.ties(HIGH, 0), y -> y.ties(0, LOW), y -> y.ties(0, HIGH), y -> y.ties(4, 2));
        int[] due = {1, 2, 1, 0, 1, 2, 2, 1};
        for (int i = 0; i < 8; i++) {
            C.due("post " + i % 4 + ", day " + i / 4, x.ties(i % 4, i / 4), due[i]);
        }
        C.due("15 at most", Check.full(16).ties(15, 0), 15);
    }

    private static void tiedOrNot() {
        C.promise(9, "1 if there is a TIE on a DAY, else 0; NONE: no such ones, one and the same POST.");
        ToldNet x = some();
        C.due("not on day 0", x.tied(2, 3, 0), 0);
        C.due("on day 1", x.tied(3, 2, 1), 1);
        C.refused(NetEdges::some, -1, y -> y.tied(2, 3, 2), y -> y.tied(2, 3, -1), y -> y.tied(2, 4, 0),
            y -> y.tied(4, 2, 0), y -> y.tied(-1, 2, 0), y -> y.tied(2, -1, 0), y -> y.tied(2, 2, 0), y -> y.tied(0, 0, 1),
            y -> y.tied(LOW, HIGH, 0), y -> y.tied(0, 1, LOW), y -> y.tied(0, 1, HIGH), y -> y.tied(0, 32, 0));
    }

    private static void compareDays() {
        C.promise(44, "TIES of two DAYS: what 0 of both, 1 of the first alone, 2 of the other alone; NONE: no such ones.");
        ToldNet x = some();
        int[] due = {-1, 2, 0, 1, -1};
        for (int what = -1; what <= 3; what++) {
            C.due("what " + what, x.compare(0, 1, what), due[what + 1]);
        }
        C.due("of a day and itself", x.compare(1, 1, 0), 3);
        C.due("alone", x.compare(1, 1, 1) + x.compare(1, 1, 2), 0);
        C.refused(NetEdges::some, -1, y -> y.compare(-1, 0, 0), y -> y.compare(0, -1, 0), y -> y.compare(2, 0, 0),
            y -> y.compare(0, 2, 0), y -> y.compare(LOW, 0, 1), y -> y.compare(0, HIGH, 2), y -> y.compare(0, 1, LOW),
            y -> y.compare(0, 1, HIGH), y -> y.compare(2, 2, 0));
        C.due("no ties at all", new ToldNet().compare(0, 0, 0), 0);
    }

    private static void counts() {
        C.promise(47, "0 POSTS, 1 TIES of THE NET, 2 TODAY, 3 CHANGES, 4 TELLINGS, 5 QUESTIONS of THE READER, 6 bytes on the tape");
        ToldNet x = some();
        int[] due = {-1, 4, 3, 1, 3, 1, 1, 14, -1, -1, -1};
        for (int what = -1; what < 10; what++) {
            C.due("count " + what, x.count(what), due[what + 1]);
        }
    }

    private static void countsOfTellings() {
        C.promise(47, "10 and a TELLING's number: its BOXES, 20 likewise: its WORDS, 30 likewise: its EXCEPTS. NONE for others.");
        ToldNet x = Check.full(3);
        for (int tellings = 0; tellings <= 5; tellings++) {
            for (int what = 7; what < 60; what++) {
                int t = what % 10;
                // of three posts, all in one box: one crowd; each alone: three excepts
                int due = t >= tellings || what < 10 || what > 39 ? -1 : what < 20 ? (t == 0 ? 3 : 1) : what < 30
                    ? (t == 0 ? 0 : 1) : (t == 0 ? 3 : 0);
                C.due("count " + what + " of " + tellings, x.count(what), due);
            }
            x.make(tellings == 0 ? 0 : 1);
        }
        ToldNet y = Check.full(3);
        for (int t = 0; t < 5; t++) {
            y.make(t == 0 ? 0 : 1);
        }
        for (int what : new int[] {LOW, HIGH, -1, -10, 15, 19, 25, 29, 35, 39, 40, 44, 100, 110, 1 << 16}) {
            C.due("count " + what, y.count(what), -1);
        }
        C.due("of telling 4", y.count(14) * 100 + y.count(24) * 10 + y.count(34), 110);
    }
}
