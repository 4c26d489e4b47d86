/** Promises 26 to 34: excepts left out, sorts, questions, the reader. */
public final class QuestionTests {
    private static final Check C = new Check();
    private static final int ALL = 31;

    public static void main(String[] args) {
        leave();
        sort();
        openAnswers();
        sureAnswers();
        manySorts();
        wrongQuestions();
        led();
        reader();
        serveSets();
        serveSteps();
        C.finish("QuestionTests");
    }

    /** Five posts, one box, its crowd, but not 0 1, not 2 3. */
    private static ToldNet crowd() {
        ToldNet x = Check.net(5);
        C.due("read", Check.read(x, "box a 0 1 2 3 4;crowd a;not 0 1;not 2 3;"), 0);
        return x;
    }

    private static void leave() {
        ToldNet x = crowd();
        C.due("15 all told", x.length(0), 15 + 4 + 4 + 16);
        C.due("26 out", x.leave(0, 0, true), true);
        C.due("15 one left out", x.length(0), 15 + 4 + 4 + 8 + 4 + 2 + 4);
        C.due("26 out again", x.leave(0, 0, true), true);
        C.due("15 one left out", x.length(0), 37 + 4);
        C.due("26 out", x.leave(0, 1, true), true);
        C.due("15 two left out", x.length(0), 15 + 4 + 4 + 4 + 2 + 4);
        C.due("26 told again", x.leave(0, 0, false), true);
        C.due("19 told", x.except(0, 0, 3), 0);
        C.due("19 left out", x.except(0, 1, 3), 1);
        C.due("26 no except", x.leave(0, 2, true), false);
        C.due("26 no except", x.leave(0, -1, true), false);
        C.due("26 no telling", x.leave(1, 0, true), false);
        C.due("26 no telling", x.leave(-1, 0, true), false);
        C.due("15 nothing happens", x.length(0), 41);
    }

    private static void sort() {
        ToldNet x = crowd();
        x.leave(0, 0, true);
        C.due("27 R", x.sort(0, 0, 4, true, 0), 9);
        C.due("27 C", x.sort(0, 4, 0, true, 1), 1);
        C.due("27 R, not said", x.sort(0, 0, 4, false, 0), 0);
        C.due("27 C, not said", x.sort(0, 0, 4, false, 1), 0);
        C.noneOf("27", x.sort(0, 1, 1, true, 0), x.sort(0, 5, 0, true, 0), x.sort(0, 0, -1, true, 0), x.sort(1, 0, 1, true, 0),
            x.sort(0, 0, 1, true, 2), x.sort(0, 0, 1, true, -1));
        ToldNet y = Check.net(6);
        // between the boxes: six of nine said by two stars, three not
        Check.read(y, "box a 0 1 2;box b 3 4 5;star 0 b;star 1 b;not 0 3;not 1 4;also 2 3;also 2 4;");
        y.leave(0, 0, true);
        y.leave(0, 2, true);
        C.due("27 said R", y.sort(0, 2, 3, true, 0), 5);
        C.due("27 said C", y.sort(0, 2, 3, true, 1), 1);
        C.due("27 not said R", y.sort(0, 3, 0, false, 0), 2);
        C.due("27 not said C", y.sort(0, 3, 0, false, 1), 1);
        C.due("27 in a box R", y.sort(0, 3, 5, false, 0), 3);
        C.due("27 in a box C", y.sort(0, 3, 5, false, 1), 0);
        // two sorts with some left out: 4 + 2 * 1 and B(6), B(3)
        C.due("15 two sorts", y.length(0), 18 + 8 + 2 * (3 + 3 + 1) + 2 * 8 + 6 + 3 + 6 + 2);
    }

    private static void both(String what, ToldNet x, int kind, int a, int b, int least, int most) {
        C.due("28 least of " + what, x.ask(0, kind, a, b, false), least);
        C.due("28 most of " + what, x.ask(0, kind, a, b, true), most);
    }

    private static void openAnswers() {
        ToldNet x = crowd();
        x.leave(0, 0, true);
        x.leave(0, 1, true);
        both("tied", x, 0, 2, 4, 0, 1);
        both("ties", x, 1, 0, 99, 2, 4);
        both("cut", x, 2, 3, -7, 4, 6);
        both("cut of none", x, 2, 0, 0, 0, 0);
        both("cut of all", x, 2, ALL, 0, 0, 0);
        both("far", x, 3, 0, 1, 1, 5);
        both("paths", x, 4, 0, 1, 0, 3);
        both("trios", x, 5, 0, 0, 0, 6);
        C.due("29 tied", x.mean(0, 0, 2, 4), 800);
        C.due("29 ties", x.mean(0, 1, 0, 99), 3200);
        C.due("29 cut", x.mean(0, 2, 3, 0), 4800);
        C.due("29 cut of none", x.mean(0, 2, 0, 0), 0);
        // one told: R 9, C 1
        x.leave(0, 0, false);
        both("tied, told not", x, 0, 0, 1, 0, 0);
        both("ties", x, 1, 0, 0, 2, 3);
        both("far", x, 3, 0, 1, 2, 5);
        both("far", x, 3, 0, 2, 1, 5);
        both("paths", x, 4, 0, 1, 0, 3);
        both("trios", x, 5, 0, 0, 0, 3);
        C.due("29 told not", x.mean(0, 0, 0, 1), 0);
        C.due("29 rounded down", x.mean(0, 0, 0, 2), 1000 - 111);
        C.due("29 rounded down in a sort", x.mean(0, 1, 0, 0), 3000 - 333);
    }

    private static void sureAnswers() {
        ToldNet x = crowd();
        both("tied", x, 0, 0, 1, 0, 0);
        both("tied", x, 0, 0, 2, 1, 1);
        both("ties", x, 1, 4, 0, 4, 4);
        both("far", x, 3, 0, 1, 2, 2);
        both("paths", x, 4, 0, 1, 3, 3);
        both("trios", x, 5, 4, 0, 4, 4);
        C.due("29 ties", x.mean(0, 1, 4, 0), 4000);
        // C as R: all of the sort the other way round
        ToldNet y = Check.net(4);
        Check.read(y, "box a 0 1;box b 2 3;crowd a;not 0 1;also 2 3;");
        y.leave(0, 0, true);
        y.leave(0, 1, true);
        both("said, all left out", y, 0, 0, 1, 0, 0);
        both("not said, all left out", y, 0, 2, 3, 1, 1);
        both("far", y, 3, 2, 3, 1, 1);
        both("far, none", y, 3, 0, 1, 4, 4);
        C.due("29 said", y.mean(0, 0, 0, 1), 0);
        C.due("29 not said", y.mean(0, 0, 2, 3), 1000);
        // at least: more left out than the pairs not asked for
        ToldNet z = Check.net(4);
        Check.read(z, "box a 0 1 2 3;also 0 1;also 0 2;also 1 2;also 1 3;");
        for (int k = 0; k < 4; k++) {
            z.leave(0, k, true);
        }
        both("ties", z, 1, 0, 0, 1, 3);
        both("cut", z, 2, 3, 0, 2, 4);
        C.due("29 not said", z.mean(0, 2, 3, 0), 2666);
    }

    private static void manySorts() {
        ToldNet x = Check.net(6);
        Check.read(x, "box a 0 1 2;box b 3 4 5;crowd a;sides a b;not 0 1;not 0 3;not 1 4;also 3 4;also 4 5;");
        for (int k = 0; k < 4; k++) {
            x.leave(0, k, true);
        }
        // of a: 1 of 3 left out; between: 2 of 9; of b: 1 of 2 and 4 5 told
        both("ties of 0", x, 1, 0, 0, 1 + 1, 2 + 3);
        both("ties of 4", x, 1, 4, 0, 1 + 1 + 0, 3 + 1 + 1);
        both("ties of 3", x, 1, 3, 0, 1 + 1, 3 + 1);
        both("cut of a", x, 2, 7, 0, 7, 7);
        both("cut of 0 and 4", x, 2, 17, 0, 2 - 1 + 4 - 2 + 0 + 1, 2 + 4 + 1 + 1);
        C.due("29 ties of 4", x.mean(0, 1, 4, 0), 3000 - 666 + 500 + 1000);
        C.due("29 ties of 0", x.mean(0, 1, 0, 0), 2000 - 666 + 3000 - 666);
        both("far", x, 3, 4, 5, 1, 1);
        both("paths", x, 4, 3, 5, 0 + 0, 3 + 1);
        C.due("27 told besides", x.sort(0, 3, 4, false, 0), 2);
    }

    private static void wrongQuestions() {
        ToldNet x = crowd();
        for (boolean most : new boolean[] {false, true}) {
            C.noneOf("28", x.ask(1, 0, 0, 1, most), x.ask(-1, 1, 0, 0, most), x.ask(0, -1, 0, 1, most), x.ask(0, 6, 0, 1, most),
                x.ask(0, 0, 1, 1, most), x.ask(0, 0, 0, 5, most), x.ask(0, 0, -1, 0, most), x.ask(0, 1, 5, 0, most),
                x.ask(0, 1, -1, 0, most), x.ask(0, 2, -1, 0, most), x.ask(0, 2, 32, 0, most), x.ask(0, 3, 2, 2, most),
                x.ask(0, 3, 2, 5, most), x.ask(0, 4, 3, 3, most), x.ask(0, 4, 5, 3, most), x.ask(0, 5, 5, 0, most),
                x.ask(0, 5, -1, 0, most), x.ask(0, Integer.MIN_VALUE, 0, 1, most), x.ask(0, 2, Integer.MIN_VALUE, 1, most));
        }
        C.noneOf("29", x.mean(1, 0, 0, 1), x.mean(0, 3, 0, 1), x.mean(0, 4, 0, 1), x.mean(0, 5, 0, 1), x.mean(0, 6, 0, 1),
            x.mean(0, -1, 0, 1), x.mean(0, 0, 1, 1), x.mean(0, 1, 5, 0), x.mean(0, 2, 32, 0), x.mean(0, 2, -1, 0));
        C.noneOf("30", x.leads(1, 0, 0, 1), x.leads(0, 0, 1, 1), x.leads(0, 6, 0, 1), x.leads(0, 5, 5, 0), x.leads(0, 2, 32, 0));
        C.noneOf("31", x.led(1, 0, 0, 1, 0), x.led(0, 0, 1, 1, 0), x.led(0, 6, 0, 1, 0), x.led(0, 0, 0, 1, 0));
        C.noneOf("32", x.reader(0, 0, 0, 1), x.reader(0, 0, 5, 1), x.reader(6, 0, 1, 1), x.reader(-1, 0, 1, 1),
            x.reader(1, 5, 0, 1), x.reader(2, 32, 0, 1), x.reader(1, 0, 0, 0), x.reader(1, 0, 0, 10), x.reader(1, 0, 0, -1));
        C.due("32 nothing happens", x.count(5), 0);
    }

    private static void led() {
        ToldNet x = crowd();
        C.due("30 none left out", x.leads(0, 1, 0, 0), 0);
        x.leave(0, 0, true);
        x.leave(0, 1, true);
        C.due("30 ties", x.leads(0, 1, 0, 0), 2);
        C.due("31 first", x.led(0, 1, 0, 0, 0), 0);
        C.due("31 second", x.led(0, 1, 0, 0, 1), 1);
        C.noneOf("31", x.led(0, 1, 0, 0, 2), x.led(0, 1, 0, 0, -1));
        // tied 2 3 stays open if only 0 1 is told
        C.due("30 tied", x.leads(0, 0, 2, 3), 1);
        C.due("31 tied", x.led(0, 0, 2, 3, 0), 1);
        C.due("19 still left out", x.except(0, 0, 3) + x.except(0, 1, 3), 2);
        x.leave(0, 0, false);
        C.due("30 told ones do not count", x.leads(0, 1, 0, 0), 1);
        C.due("31 its number among all", x.led(0, 1, 0, 0, 0), 1);
    }

    private static void reader() {
        ToldNet x = crowd();
        C.due("33 no questions", x.harm(0), 0);
        C.due("32 first", x.reader(1, 0, 77, 3), 0);
        C.due("32 set", x.reader(2, ALL, 0, 9), 1);
        C.due("32 tied", x.reader(0, 2, 4, 2), 2);
        C.due("33 all told", x.harm(0), 0);
        x.leave(0, 0, true);
        x.leave(0, 1, true);
        C.due("33 left out", x.harm(0), 3 * 2 + 9 * 0 + 2 * 1);
        for (int i = 3; i < 10; i++) {
            C.due("32 question " + i, x.reader(3, 0, 1, 1), i);
        }
        C.due("32 ten are there", x.reader(3, 0, 1, 1), -1);
        C.due("33 far", x.harm(0), 8 + 7 * 4);
        C.noneOf("33", x.harm(1), x.harm(-1), x.harm(5));
        x.drop();
        C.due("32 they stay", x.count(5), 10);
    }

    private static void serveSets() {
        ToldNet x = crowd();
        x.reader(1, 0, 0, 3);
        C.noneOf("34", x.serve(1, 100), x.serve(-1, 100));
        C.due("34 no room", x.serve(0, 32), -2);
        C.due("34 nothing happens", x.length(0), 39);
        C.due("34 all left out", x.serve(0, 33), 6);
        C.due("34 told so", x.length(0), 33);
        C.due("34 no more room", x.serve(0, 38), 6);
        C.due("34 all told", x.serve(0, 39), 0);
        C.due("34 told so", x.length(0), 39);
        C.due("34 least length", x.serve(0, 41), 0);
        C.due("34 least length", x.length(0), 39);
        x.net(5);
        Check.read(x, "box a 0 1 2 3 4;crowd a;not 0 1;not 2 3;");
        C.due("34 no questions", x.serve(0, 99), 0);
        C.due("34 no questions: least length", x.length(0), 33);
        C.due("34 far too short", x.serve(0, Integer.MIN_VALUE), -2);
        // one told of two alike: the least bits, so the first except
        ToldNet y = Check.net(8);
        Check.read(y, "box a 0 1 2 3;box b 4 5 6 7;also 0 1;also 4 5;");
        y.reader(1, 0, 0, 1);
        y.reader(1, 4, 0, 1);
        // all told 24 + 8 + 16, one left out 24 + 8 + 8 + 4 + 2 + 3, both 24 + 8 + 18
        C.due("15 told", y.length(0), 48);
        y.leave(0, 0, true);
        C.due("15 one", y.length(0), 49);
        C.due("34 all told is short", y.serve(0, 60), 0);
        C.due("34 all told is short", y.length(0), 48);
        C.due("34 none is", y.serve(0, 47), -2);
    }

    private static void serveSteps() {
        // ties of 0 .. 4 each told by an also, post 5 without: R 15, C 10
        StringBuilder text = new StringBuilder("box a 0 1 2 3 4 5;");
        for (int a = 0; a < 5; a++) {
            for (int b = a + 1; b < 5; b++) {
                text.append("also ").append(a).append(' ').append(b).append(';');
            }
        }
        ToldNet x = Check.net(6);
        C.due("34 read", Check.read(x, text.toString()), 0);
        x.reader(1, 0, 0, 1);
        C.due("34 no room", x.serve(0, 31), -2);
        C.due("34 nothing happens", x.length(0), 18 + 4 + 80);
        C.due("34 all left out", x.serve(0, 32), 5);
        C.due("34 all left out", x.length(0), 32);
        C.due("34 two told", x.serve(0, 50), 3);
        C.due("34 two told", x.length(0), 48);
        for (int k = 0; k < 10; k++) {
            C.due("34 the first of alike ones " + k, x.except(0, k, 3), k < 2 ? 0 : 1);
        }
        C.due("34 until it is not less", x.serve(0, 2000), 1);
        C.due("34 until it is not less", x.length(0), 18 + 4 + 4 * 8 + 10);
        x.reader(0, 0, 5, 9);
        C.due("34 no step helps", x.serve(0, 2000), 10);
        // by nine: the best of all sets, all told
        ToldNet y = Check.net(6);
        Check.read(y, text.toString().replace("also 3 4;", ""));
        y.reader(1, 5, 0, 1);
        C.due("34 all sets", y.serve(0, 2000), 0);
        C.due("34 all sets", y.length(0), 18 + 4 + 72);
    }
}
