/** Promises 10 and 11: texts, their tokens and their faults; what a told text becomes (15 to 20). */
public final class TextTests {
    private static final Check C = new Check();
    private static final String TWO = "box a 0 1;box b 2 3;";

    public static void main(String[] args) {
        tokens();
        syntax();
        room();
        twice();
        name();
        wrong();
        open();
        firstFault();
        faultyWordsSay();
        faultyBoxes();
        full();
        telling();
        C.finish("TextTests");
    }

    /** A text for four posts: its fault, or 0, and where. */
    private static void fault(String text, int number, int place) {
        ToldNet x = Check.net(4, 0, 1);
        Check.read(x, "zz");
        String name = text.length() < 60 ? text : ".." + text.substring(text.length() - 50);
        C.due("10 read " + name, Check.read(x, text), number);
        C.due("11 place " + name, x.place(), place);
        C.due("10 tape " + name, x.count(6), 0);
        C.due("10 tellings " + name, x.count(4), number == 0 ? 1 : 0);
    }

    private static void tokens() {
        fault("box a 0 1 2 3;", 0, -1);
        fault("box\ta\n0\r1 2 3 ;", 0, -1);
        fault("boxa", 1, 0);
        fault("box a0 1 2 3;crowd a;", 0, -1);
        fault("box a0001 0000 2 3;", 0, -1);
        fault("box a00010 0000 2 3;", 1, 5);
        fault("box abcdefgh 0 1 2 3;", 0, -1);
        fault("box abcdefghi 0 1 2 3;", 1, 4);
        fault("box boxes 0 1 2 3;crowd boxes;", 0, -1);
        fault("box box 0 1 2 3;", 1, 4);
        fault("box also 0 1 2 3;", 1, 4);
        fault("box A 0 1 2 3;", 1, 4);
        fault("box a 0 1 2 3;" + (char) 233, 1, 14);
        fault("box a 0 1 2 3;" + (char) 0, 1, 14);
        fault("box a 0 1 2 3;" + (char) 11, 1, 14);
        fault("box a 0,1 2 3;", 1, 7);
        fault("box a -1;", 1, 6);
    }

    private static void syntax() {
        fault(";", 1, 0);
        fault("a", 1, 0);
        fault("  7", 1, 2);
        fault("box a;", 1, 5);
        fault("box 0 1;", 1, 4);
        fault("box a 0 b", 1, 8);
        fault("box a 0", 1, 7);
        fault("box a 0  ", 1, 9);
        fault("box", 1, 3);
        fault("crowd ", 1, 6);
        fault("crowd a", 1, 7);
        fault("crowd a b;", 1, 8);
        fault("chain 1;", 1, 6);
        fault("sides a;", 1, 7);
        fault("sides a b c;", 1, 10);
        fault("star a 1;", 1, 5);
        fault("star 1 a 2;", 1, 9);
        fault("star 1 2;", 1, 7);
        fault("not 0;", 1, 5);
        fault("not 0 1 2;", 1, 8);
        fault("also a 1;", 1, 5);
        fault("also 0 1 also 2 3;", 1, 9);
        fault(TWO + ";", 1, 20);
    }

    private static void room() {
        String box = "box a 0 1 2 3;";
        String crowds = "crowd a;".repeat(40);
        fault(box + crowds, 3, 22);
        fault(box + crowds + "chain a;", 2, 14 + 40 * 8);
        fault(box + crowds + "chain ;", 2, 14 + 40 * 8);
        fault(box + crowds + "chain a;!", 2, 14 + 40 * 8);
        fault(box + crowds + "crowd!", 2, 14 + 40 * 8);
        fault(box + "crowd !" + crowds, 1, 20);
        fault(box + crowds + "not 0 1;", 3, 22);
        // 7 tokens of the box and 97 times 4
        String most = box + "also 0 1;".repeat(97);
        int end = 14 + 97 * 9;
        fault(most + "box b 0 1;", 3, 14 + 9 + 7);
        fault(most + "box b 0 1;also", 2, end + 10);
        fault(most + "box b 0 1; \n also", 2, end + 13);
        fault(most + "box b 0 1 2;", 2, end + 11);
        fault(most + "box b 0 1;;", 1, end + 10);
        fault(most + "box b 0 1;box!", 2, end + 10);
        fault(most + "box b 0 1", 1, end + 9);
        fault(most + "box b 0 !", 1, end + 8);
    }

    private static void twice() {
        fault("box a 0 1;box a 2 3;", 3, 14);
        fault("box a 0 0 1;box b 2 3;", 3, 8);
        fault("box a 0 1;box b 2 1 3;", 3, 18);
        fault(TWO + "crowd a;crowd b;crowd a;", 3, 36);
        fault(TWO + "crowd a;chain a;chain a;", 3, 36);
        fault(TWO + "sides a b;sides b a;", 3, 30);
        fault(TWO + "star 0 a;star 1 a;star 0 b;star 0 a;", 3, 47);
        fault(TWO + "crowd a;not 0 1;not 1 0;", 3, 42);
        fault(TWO + "crowd a;not 0 1;also 1 0;", 3, 43);
        fault(TWO + "also 0 1;not 1 0;", 3, 35);
        fault(TWO + "also 0 1;also 1 0;", 3, 36);
    }

    private static void name() {
        fault("crowd a;" + TWO, 4, 6);
        fault(TWO + "chain c;", 4, 26);
        fault(TWO + "sides a c;", 4, 28);
        fault(TWO + "sides c a;", 4, 26);
        fault(TWO + "sides c c;", 4, 26);
        fault(TWO + "star 0 c;", 4, 27);
    }

    private static void wrong() {
        fault("box a 0 1 2 3 4;", 5, 14);
        fault("box a 0 1 2 3;star 4 a;", 5, 19);
        fault("box a 0 1 2 3;also 4 0;", 5, 19);
        fault("box a 0 1 2 3;also 0 9999;", 5, 21);
        fault(TWO + "sides a a;", 5, 28);
        fault("box a 0;crowd a;box b 1 2 3;", 5, 14);
        fault("box a 0;chain a;box b 1 2 3;", 5, 14);
        fault("box a 0;star 0 a;box b 1 2 3;", 5, 15);
        fault("box a 0;star 1 a;box b 1 2 3;", 0, -1);
        fault(TWO + "also 1 1;", 5, 27);
        fault(TWO + "not 1 1;", 5, 26);
        fault(TWO + "not 0 1;crowd a;", 5, 26);
        fault(TWO + "crowd a;not 0 1;", 0, -1);
        fault(TWO + "crowd a;not 0 2;", 5, 34);
        fault(TWO + "crowd a;also 0 1;", 5, 35);
        fault(TWO + "also 0 1;crowd a;", 5, 27);
        fault(TWO + "also 0 2;crowd a;", 0, -1);
        fault("also 0 2;" + TWO, 0, -1);
        fault("also 0 1;" + TWO + "chain a;", 5, 7);
        fault("box a 1 0 2;box b 3;chain a;not 1 2;", 5, 34);
        fault("box a 1 0 2;box b 3;chain a;not 0 2;not 1 0;also 1 2;", 0, -1);
    }

    private static void open() {
        fault("", 6, 0);
        fault("  ", 6, 2);
        fault("box a 0 1 2;", 6, 12);
        fault("box a 0 1 2; \n", 6, 14);
    }

    private static void firstFault() {
        fault("also 0 1;crowd z;" + TWO + "crowd a;", 5, 7);
        fault("crowd z;also 0 1;" + TWO + "crowd a;", 4, 6);
        fault("box a 0 0 9;box a 1;", 3, 8);
        fault("box a 0 9 0;box a 1;", 5, 8);
        fault(TWO + "sides a b;sides b z;", 4, 38);
        fault(TWO + "crowd z;!", 1, 28);
    }

    /** An also is wrong by a word told behind, even if that word is a fault itself. */
    private static void faultyWordsSay() {
        fault("box a 0 1 2;also 0 1;also 1 0;sides a a;box b 3;", 5, 19);
        fault(TWO + "also 0 1;sides a a;", 5, 27);
        fault(TWO + "also 2 3;sides a a;", 5, 37);
        fault(TWO + "also 0 2;sides a a;", 5, 37);
        fault(TWO + "sides a a;also 0 1;", 5, 28);
        fault(TWO + "also 3 2;sides a a;sides b b;", 5, 27);
        fault(TWO + "also 0 1;crowd b;crowd b;crowd a;", 5, 27);
        fault("also 0 2;box a 0 9 2;crowd a;box b 1 3;", 5, 7);
        // what names no box told ahead, or has no pairs, says none
        fault(TWO + "also 0 1;sides a z;", 4, 37);
        fault(TWO + "also 0 2;star 2 z;", 4, 36);
        fault("box a 0;box b 1 2 3;also 0 1;chain a;crowd a;sides a a;", 5, 35);
        fault("box a 0;box b 1 2 3;also 0 1;star 0 a;star 9 b;", 5, 36);
    }

    /** The first box of a name is the one that words name, even if none of its posts can be told. */
    private static void faultyBoxes() {
        fault("also 0 1;box a 9;box a 0 1;crowd a;", 5, 15);
        fault("also 0 1;box a 9;box b 0 1;crowd b;", 5, 7);
        StringBuilder many = new StringBuilder("also 0 1;");
        for (int i = 0; i < 20; i++) {
            many.append("box q").append((char) ('a' + i)).append(" 9;");
        }
        fault(many + "box z 0 1;crowd z;", 5, 7);
        fault(many + "box z 0 1;crowd qt;", 5, 16);
        fault(many + "box z 0 1;sides z z;", 5, 7);
    }

    private static void full() {
        ToldNet x = Check.net(4);
        C.due("11 without a read", x.place(), -1);
        for (int i = 0; i < 5; i++) {
            C.due("10 telling " + i, Check.read(x, "box a 0 1 2 3;"), 0);
        }
        Check.read(x, "zz");
        C.due("10 the tape stays", x.count(6), 2);
        C.due("10 five are there", x.read(), -2);
        C.due("11 not of this", x.place(), -1);
        x.drop();
        C.due("10 then it is read", x.read(), 1);
        C.due("11 place", x.place(), 0);
        x.make(0);
        C.due("10 five are there", Check.read(x, "box a 0 1 2 3;"), -2);
        C.due("11 of the one ahead", x.place(), 0);
        x.net(4);
        C.due("11 a net changes nothing", x.place(), 0);
        C.due("10 tape of before", x.read(), 0);
        C.due("11 without a fault", x.place(), -1);
    }

    private static void telling() {
        ToldNet x = Check.net(6);
        String text = "box z 5 2;box y 4;box x 3 0 1;chain x;star 4 x;star 0 x;sides z y;crowd z;chain z;not 5 4;also 4 5;";
        C.due("10 pair twice", Check.read(x, text), 3);
        text = "box z 5 2;box y 4;box x 3 0 1;chain x;star 4 x;star 0 x;sides z y;crowd z;chain z;not 5 4;also 2 1;";
        C.due("10 read", Check.read(x, text), 0);
        C.due("10 boxes", x.count(10), 3);
        int[] boxes = {0, 0, 1, 0, 2, 1};
        for (int p = 0; p < 6; p++) {
            C.due("16 box of " + p, x.box(0, p), boxes[p]);
        }
        int[] rows = {3, 0, 1};
        for (int i = 0; i < 3; i++) {
            C.due("17 row 0 " + i, x.row(0, 0, i), rows[i]);
        }
        C.due("17 row 1", x.row(0, 1, 0), 5);
        C.due("17 row 2", x.row(0, 2, 0), 4);
        int[][] words = {{0, 1, -1}, {1, 1, 2}, {2, 0, 0}, {2, 4, 0}, {3, 0, -1}, {3, 1, -1}};
        C.due("10 words", x.count(20), words.length);
        for (int k = 0; k < words.length; k++) {
            for (int what = 0; what < 3; what++) {
                C.due("18 word " + k + " " + what, x.word(0, k, what), words[k][what]);
            }
        }
        int[][] excepts = {{1, 2, 0, 0}, {4, 5, 1, 0}};
        for (int k = 0; k < excepts.length; k++) {
            for (int what = 0; what < 4; what++) {
                C.due("19 except " + k + " " + what, x.except(0, k, what), excepts[k][what]);
            }
        }
        // said: 2 5, 2 4, 4 5, 0 1, 0 3, 1 4, 0 4, 3 4
        String built = "2-5 2-4 0-1 0-3 1-4 0-4 3-4 1-2 ";
        for (int a = 0; a < 6; a++) {
            for (int b = a + 1; b < 6; b++) {
                C.due("20 built " + a + " " + b, x.built(0, b, a), built.contains(a + "-" + b + " ") ? 1 : 0);
            }
        }
        // 6 * 3 + 4 * 3, crowd 5, sides 7, two stars 8 each, two chains 5 each, two excepts 8 each
        C.due("15 length", x.length(0), 30 + 5 + 7 + 16 + 10 + 16);
        C.due("21 unlike", x.unlike(0, 0), 8);
    }
}
