/** Promises 1 to 9, 44 and 47: the net, its days, the tape's size, counts. */
public final class NetTests {
    private static final Check C = new Check();

    public static void main(String[] args) {
        newObject();
        feed();
        back();
        net();
        tie();
        tomorrow();
        mark();
        tiesAndTied();
        compare();
        count();
        C.finish("NetTests");
    }

    private static void newObject() {
        ToldNet x = new ToldNet();
        int[] due = {2, 0, 0, 0, 0, 0, 0};
        for (int what = 0; what < due.length; what++) {
            C.due("1 count " + what, x.count(what), due[what]);
        }
        C.due("1 tied", x.tied(0, 1, 0), 0);
        C.due("1 rounds", x.rounds(), 0);
        C.due("1 coarsest", x.coarsest(1), 0);
        C.noneOf("1", x.length(0), x.drop(), x.place(), x.harm(0), x.line(0));
        C.due("1 read", x.read(), 6);
        C.due("1 place", x.place(), 0);
    }

    private static void feed() {
        ToldNet x = new ToldNet();
        // "box a 1 0;crowd a; !" tells that the highest byte comes first, and which word comes first
        C.due("2 feed", x.feed(0x626f7820, 0x61203120, 0x303b6372, 0x6f776420, 0x613b2021), 20);
        C.due("2 read", x.read(), 1);
        C.due("2 place", x.place(), 19);
        x.feed(0x626f7820, 0x61203120, 0x303b6372, 0x6f776420, 0x613b2020);
        C.due("2 read", x.read(), 0);
        C.due("2 row", x.row(0, 0, 0), 1);
        for (int i = 1; i <= 100; i++) {
            C.due("2 feed " + i, x.feed(-1, -1, -1, -1, -1), 20 * i);
        }
        C.due("2 feed above 2000", x.feed(0, 0, 0, 0, 0), -1);
        C.due("2 nothing comes", x.count(6), 2000);
        x.back(1);
        C.due("2 feed above 2000 by 19", x.feed(0, 0, 0, 0, 0), -1);
        x.back(19);
        C.due("2 feed to 2000", x.feed(0, 0, 0, 0, 0), 2000);
    }

    private static void back() {
        ToldNet x = new ToldNet();
        C.due("3 back 0 of none", x.back(0), 0);
        C.due("3 back of none", x.back(1), -1);
        x.feed(0, 0, 0, 0, 0);
        C.due("3 back", x.back(7), 13);
        C.due("3 back 0", x.back(0), 13);
        C.noneOf("3", x.back(14), x.back(-1), x.back(Integer.MAX_VALUE), x.back(Integer.MIN_VALUE));
        C.due("3 nothing goes", x.count(6), 13);
        C.due("3 back all", x.back(13), 0);
    }

    private static void net() {
        ToldNet x = Check.net(4, 0, 1, 2, 3);
        x.tomorrow();
        x.mark(1, 2);
        x.make(0);
        x.reader(1, 0, 0, 1);
        x.feed(1, 2, 3, 4, 5);
        for (int n : new int[] {1, 0, -1, 17, Integer.MAX_VALUE, Integer.MIN_VALUE}) {
            C.due("4 net " + n, x.net(n), false);
        }
        int[] was = {4, 2, 1, 2, 1, 1, 20};
        int[] due = {16, 0, 0, 0, 0, 0, 20};
        for (int what = 0; what < 7; what++) {
            C.due("4 still " + what, x.count(what), was[what]);
        }
        C.due("4 net 16", x.net(16), true);
        for (int what = 0; what < 7; what++) {
            C.due("4 anew " + what, x.count(what), due[what]);
        }
        C.due("4 marks", x.coarsest(1), 0);
        C.due("4 net 2", x.net(2), true);
        C.due("4 first change", x.tie(1, 0, true), 0);
        C.due("4 ties", x.tied(0, 1, 0), 1);
    }

    private static void tie() {
        ToldNet x = Check.net(3);
        C.noneOf("5", x.tie(0, 3, true), x.tie(-1, 0, true), x.tie(1, 1, true), x.tie(0, 1, false), x.tie(16, 17, true));
        for (int i = 0; i < 300; i++) {
            C.due("5 change " + i, x.tie(i % 4 < 2 ? 1 : 2, i % 4 < 2 ? 2 : 1, i % 2 == 0), i);
        }
        C.due("5 change 300", x.tie(0, 1, true), -1);
        C.due("5 nothing happens", x.tied(0, 1, 0), 0);
        C.due("5 changes", x.count(3), 300);
        ToldNet y = Check.net(3, 0, 1);
        C.due("5 it is so already", y.tie(1, 0, true), -1);
        C.due("5 goes", y.tie(1, 0, false), 1);
        C.due("5 gone", y.count(1), 0);
    }

    private static void tomorrow() {
        ToldNet x = Check.net(3, 0, 1);
        for (int day = 1; day <= 40; day++) {
            C.due("6 day " + day, x.tomorrow(), day);
        }
        C.due("6 day 41", x.tomorrow(), -1);
        C.due("6 today", x.count(2), 40);
        C.due("6 ties stay", x.tied(0, 1, 40), 1);
        C.due("6 changes go on", x.tie(1, 2, true), 1);
        C.due("6 not on the day ahead", x.tied(1, 2, 39), 0);
    }

    private static void mark() {
        ToldNet x = Check.net(3);
        C.due("7 mark", x.mark(2, 3), true);
        C.due("7 parts", x.coarsest(2), 1);
        C.due("7 mark 0", x.mark(2, 0), true);
        C.due("7 parts no more", x.coarsest(2), 0);
        C.due("7 v 4", x.mark(0, 4), false);
        C.due("7 v -1", x.mark(0, -1), false);
        C.due("7 post 3", x.mark(3, 1), false);
        C.due("7 post -1", x.mark(-1, 1), false);
        C.due("7 nothing happens", x.coarsest(0) + x.coarsest(1) + x.coarsest(2), 0);
    }

    private static void tiesAndTied() {
        ToldNet x = Check.net(4, 0, 1, 0, 2);
        x.tomorrow();
        x.tie(0, 2, false);
        x.tie(0, 3, true);
        x.tie(2, 3, true);
        C.due("8 day 0", x.ties(0, 0), 2);
        C.due("8 day 1", x.ties(0, 1), 2);
        C.due("8 of 3", x.ties(3, 1), 2);
        C.due("8 of 3, day 0", x.ties(3, 0), 0);
        C.noneOf("8", x.ties(4, 0), x.ties(-1, 0), x.ties(0, 2), x.ties(0, -1), x.ties(16, 0), x.ties(0, 41));
        C.due("9 day 0", x.tied(2, 0, 0), 1);
        C.due("9 day 1", x.tied(2, 0, 1), 0);
        C.due("9 came", x.tied(0, 3, 1), 1);
        C.noneOf("9", x.tied(0, 0, 0), x.tied(0, 4, 0), x.tied(-1, 0, 0), x.tied(0, 1, 2), x.tied(0, 1, -1));
    }

    private static void compare() {
        ToldNet x = Check.net(5, 0, 1, 1, 2, 2, 3);
        x.tomorrow();
        x.tie(0, 1, false);
        x.tie(0, 4, true);
        x.tie(1, 4, true);
        C.due("44 both", x.compare(0, 1, 0), 2);
        C.due("44 the first alone", x.compare(0, 1, 1), 1);
        C.due("44 the other alone", x.compare(0, 1, 2), 2);
        C.due("44 turned", x.compare(1, 0, 1), 2);
        C.due("44 alike", x.compare(1, 1, 0), 4);
        C.due("44 alike, alone", x.compare(1, 1, 2), 0);
        C.noneOf("44", x.compare(0, 2, 0), x.compare(-1, 0, 0), x.compare(2, 0, 0), x.compare(0, 1, 3), x.compare(0, 1, -1));
    }

    private static void count() {
        ToldNet x = Check.full(3);
        x.tomorrow();
        x.reader(1, 0, 0, 1);
        x.reader(1, 0, 0, 1);
        x.feed(0, 0, 0, 0, 0);
        x.make(0);
        x.make(1);
        int[] due = {3, 3, 1, 3, 2, 2, 20};
        for (int what = 0; what < due.length; what++) {
            C.due("47 count " + what, x.count(what), due[what]);
        }
        C.due("47 boxes of 0", x.count(10), 3);
        C.due("47 boxes of 1", x.count(11), 1);
        C.due("47 words of 0", x.count(20), 0);
        C.due("47 words of 1", x.count(21), 1);
        C.due("47 excepts of 0", x.count(30), 3);
        C.due("47 excepts of 1", x.count(31), 0);
        C.noneOf("47", x.count(7), x.count(9), x.count(-1), x.count(12), x.count(22), x.count(32), x.count(15), x.count(40),
            x.count(41), x.count(19), x.count(100), x.count(Integer.MIN_VALUE), x.count(Integer.MAX_VALUE));
    }
}
