import java.util.ArrayList;
import java.util.List;

/** Promises 10 and 11 and section III of the terms at their edges: each method is about one sentence of the document. */
public final class TextEdges {
    private static final Check C = new Check();
    private static final String ALL = "box a 0 1 2 3;";
    private static final String TWO = "box a 0 1;box b 2 3;";

    public static void main(String[] args) {
        bytesAtMost();
        blanks();
        names();
        ints();
        others();
        longest();
        boxesInts();
        everyTell();
        rows();
        rowsOfFaults();
        again();
        placesOfFaults();
        ofOnePlaceTheLeast();
        syntax();
        tokens401();
        words41();
        roomAndSyntaxFirst();
        nameTwice();
        postTwice();
        wordTwice();
        pairTwice();
        noSuchName();
        intsTooLarge();
        sidesOfItself();
        ofOnePost();
        starAlone();
        pairOfItself();
        notSaid();
        alsoSaid();
        open();
        changesNothing();
        tellings();
        read();
        refused();
        place();
        C.finish("TextEdges");
    }

    private static void fault(int n, String text, int number, int place) {
        ToldNet x = Check.net(n);
        String name = text.length() < 70 ? text : ".." + text.substring(text.length() - 60);
        C.due("reads " + name, Check.read(x, text), number);
        C.due("place in " + name, x.place(), place);
        C.due("tellings behind " + name, x.count(4), number == 0 ? 1 : 0);
        C.due("tape behind " + name, x.count(6), 0);
    }

    private static void fault(String text, int number, int place) {
        fault(4, text, number, place);
    }

    private static void fine(String text) {
        fault(4, text, 0, -1);
    }

    private static String blanksTo(String text, int length) {
        return text + " ".repeat(length - text.length());
    }

    private static void bytesAtMost() {
        C.terms("III", "TEXTS have 2,000 bytes at most.");
        fault(2, blanksTo("box a 0 1;", 2000), 0, -1);
        fault(2, blanksTo("", 1990) + "box a 0 1;", 0, -1);
        fault(2, blanksTo("box a 0 1", 1999) + ";", 0, -1);
        fault(2, blanksTo("box a 0 1;", 1999) + "!", 1, 1999);
        fault(2, blanksTo("box a 0 1", 2000), 1, 2000);
        fault(2, blanksTo("box a 0;", 2000), 6, 2000);
        fault(2, blanksTo("", 2000), 6, 2000);
        ToldNet x = Check.net(2);
        C.due("2,001", Check.feed(x, blanksTo("box a 0 1;", 2001)), -1);
    }

    private static void blanks() {
        C.terms("III", "with blanks (9, 10, 13, 32) between or not");
        for (int c = 0; c < 256; c++) {
            boolean blank = c == 9 || c == 10 || c == 13 || c == 32;
            fault(2, "box a 0 1;" + (char) c, blank ? 0 : 1, blank ? -1 : 10);
            boolean digit = c >= '0' && c <= '9';
            int number = blank ? 0 : !digit ? 1 : c == '0' ? 6 : 5;
            int place = blank ? -1 : !digit ? c == ';' ? 8 : 7 : c == '0' ? 10 : 6;
            // a digit makes one INT: 001, and 0 is in no BOX, or one that is too large
            fault(2, "box a 0" + (char) c + "1;", number, place);
        }
        fine("box a0 1 2 3;");
        fine("box a0 1 2 3;crowd a;star 0a;not 0 1;");
        fine("\r\n\t  box\n\na\r0\t1  2\n3\r;\tcrowd \t a\n;  ");
    }

    private static void names() {
        C.terms("III", "NAMES (letters a .. z, 8 at most, none of the words in quotes)");
        fine("box a 0 1 2 3;crowd a;");
        fine("box z 0 1 2 3;crowd z;");
        fine("box abcdefg 0 1 2 3;crowd abcdefg;");
        fine("box stuvwxyz 0 1 2 3;crowd stuvwxyz;");
        fine("box zzzzzzzz 0 1;box zzzzzzza 2 3;sides zzzzzzzz zzzzzzza;");
        fine("box aa 0 1;box a 2 3;sides aa a;");
        fault("box abcdefghi 0 1 2 3;", 1, 4);
        fault("box zzzzzzzzzzzzzzzzzzzzz 0 1 2 3;", 1, 4);
        fault(ALL + "crowd aaaaaaaaa;", 1, 20);
        fault("box ` 0 1 2 3;", 1, 4);
        fault("box { 0 1 2 3;", 1, 4);
        fault("box A 0 1 2 3;", 1, 4);
        fault("box aZ 0 1 2 3;", 1, 5);
        fault("box a_b 0 1 2 3;", 1, 5);
        for (String quoted : new String[] {"box", "crowd", "chain", "sides", "star", "not", "also"}) {
            fault("box " + quoted + " 0 1 2 3;", 1, 4);
            fault(ALL + "crowd " + quoted + ";", 1, 20);
            fine("box " + quoted + "s 0 1 2 3;crowd " + quoted + "s;");
            fine("box x" + quoted + " 0 1 2 3;crowd x" + quoted + ";");
            String less = quoted.substring(0, quoted.length() - 1);
            fine("box " + less + " 0 1 2 3;crowd " + less + ";");
            fault("box " + quoted.toUpperCase() + " 0 1 2 3;", 1, 4);
        }
    }

    private static void ints() {
        C.terms("III", "INTS (1 to 4 digits)");
        fine("box a 0 1 2 3;");
        fine("box a 00 01 2 3;");
        fine("box a 000 001 2 3;");
        fine("box a 0000 0001 0002 0003;");
        fault("box a 00000 1 2 3;", 1, 6);
        fault("box a 0 1 2 00003;", 1, 12);
        fault("box a 0 1 2 12345678901234567890;", 1, 12);
        fault("box a 0 1 2 9999;", 5, 12);
        fault("box a 0 1 2 10000;", 1, 12);
        fault(ALL + "star 00000 a;", 1, 19);
        fault(ALL + "also 0 00001;", 1, 21);
        fault("box a / 1 2 3;", 1, 6);
        fault("box a : 1 2 3;", 1, 6);
        fault("box a +1 0 2 3;", 1, 6);
        fault("box a -1 0 2 3;", 1, 6);
        fault("box a 0.1 2 3;", 1, 7);
    }

    private static void others() {
        C.terms("III", "A longer one, all else, is no TOKEN.");
        for (int c = 0; c < 256; c++) {
            boolean part = c == 9 || c == 10 || c == 13 || c == 32 || c >= 'a' && c <= 'z' || c >= '0' && c <= '9' || c == ';';
            if (!part) {
                fault((char) c + ALL, 1, 0);
                fault(ALL + "crowd a" + (char) c + ";", 1, 21);
            }
        }
        fault(ALL + "crowd aaaaaaaa;", 4, 20);
        fault(ALL + "crowd aaaaaaaaa;", 1, 20);
        fault(ALL + "star 0000 a;", 0, -1);
        fault(ALL + "star 00000 a;", 1, 19);
    }

    private static void longest() {
        C.terms("III", "TOKENS, the longest that can be");
        fault("boxa 0 1 2 3;", 1, 0);
        fault(ALL + "crowda;", 1, 14);
        fault("box a 0123;", 5, 6);
        fine("box bo1 2 3 0;");
        fine("box a0 1 2 3;crowd a;star0a;not0 1;");
        fault(ALL + "also01;", 1, 20);
        fine(ALL + "also0 1;");
        fine("box boxbox 0 1 2 3;crowd boxbox;");
    }

    private static void boxesInts() {
        C.terms("III", "'box' NAME INT {INT} ';'");
        fault("box a;", 1, 5);
        fault("box ;", 1, 4);
        fine("box a 0;box b 1;box c 2;box d 3;");
        fine("box a 3;box b 2 1 0;");
        fault("box a 0 1 2 3", 1, 13);
        StringBuilder all = new StringBuilder("box a");
        for (int p = 15; p >= 0; p--) {
            all.append(' ').append(p);
        }
        fault(16, all + ";", 0, -1);
    }

    /** Every text cut behind each of its tokens: a text only where a tell ends. */
    private static void everyTell() {
        C.terms("III", "text: {TELL}.");
        String[] tokens = (ALL.replace(";", " ;") + " crowd a ; chain a ; star 3 a ; box b 4 ; sides a b ; not 0 1 ; also 4 5 ; box c 5 ;")
            .split(" ");
        StringBuilder text = new StringBuilder();
        for (int i = 0; i <= tokens.length; i++) {
            boolean whole = i == 0 || tokens[i - 1].equals(";");
            ToldNet x = Check.net(6);
            int got = Check.read(x, text.toString());
            int due = i == tokens.length ? 0 : whole ? 6 : 1;
            // an also of a pair that sides told behind say is not in this text
            C.due("of " + i + " tokens: " + text, got, due);
            C.due("its end", x.place(), i == tokens.length ? -1 : text.length());
            text.append(i < tokens.length ? tokens[i] + " " : "");
        }
        // what may stand at each place: any other token there is a fault of its place
        String[] kinds = {"box", "crowd", "chain", "sides", "star", "not", "also", "a", "0", ";"};
        String[] starts = {"", "box", "box a", "box a 0", "crowd", "crowd a", "chain", "chain a", "sides", "sides a", "sides a a",
            "star", "star 0", "star 0 a", "not", "not 0", "not 0 1", "also", "also 0", "also 0 1"};
        String[] goOn = {"box crowd chain sides star not also", "a", "0", "0 ;", "a", ";", "a", ";", "a", "a", ";",
            "0", "a", ";", "0", "0", ";", "0", "0", ";"};
        for (int i = 0; i < starts.length; i++) {
            List<String> may = List.of(goOn[i].split(" "));
            for (String kind : kinds) {
                ToldNet x = Check.net(4);
                String cut = starts[i] + " " + kind;
                int got = Check.read(x, cut + " !");
                C.due("a fault in " + cut, got, 1);
                C.due("its place in " + cut, x.place(), may.contains(kind) ? cut.length() + 1 : starts[i].length() + 1);
            }
        }
    }

    /** The rows of many texts, one behind the other on one object. */
    private static void again() {
        C.promise(10, "The tape, which is empty then, is read: 0, or the number of its FAULT.");
        ToldNet x = Check.net(16);
        for (int i = 0; i < 45; i++) {
            int first = i % 16;
            StringBuilder text = new StringBuilder("box a " + first + ";box b");
            for (int p = 15; p >= 0; p--) {
                text.append(p == first ? "" : " " + p);
            }
            C.due("text " + i, Check.read(x, text + ";"), 0);
            C.due("its box", x.row(0, first == 0 ? 0 : 1, 0), first);
            C.due("the last of the other row", x.row(0, first == 0 ? 1 : 0, 14), first == 0 ? 1 : 0);
            x.drop();
        }
    }

    private static void rows() {
        C.terms("III", "(An INT is a POST; a BOX's INTS are its ROW.)");
        ToldNet x = Check.net(4);
        C.due("reads", Check.read(x, "box b 3 1;box a 2 0;chain b;"), 0);
        int[][] rows = {{2, 0, -1}, {3, 1, -1}, {-1, -1, -1}};
        for (int b = 0; b < 3; b++) {
            for (int i = 0; i < 3; i++) {
                C.due("row " + b + " " + i, x.row(0, b, i), rows[b][i]);
            }
        }
        // an INT that is a fault is in the ROW too: the chain says 0 2, and the also of it is ahead of the fault
        fault("also 0 2;box a 0 1;box b 3 2 0;chain b;", 5, 7);
        fault("also 0 3;box a 0 1;box b 3 2 0;chain b;", 3, 29);
        fault("also 0 3;box a 0 1;box b 3 2 0;crowd b;", 5, 7);
        fault("also 0 1;box a 0;box b 1 2 3 1;sides a b;", 5, 7);
        fault("also 0 2;box a 0 1;box b 2 3;star 0 b;box c 0;", 5, 7);
        fault("also 0 2;box a 0 0 1 0;box b 2 3;chain a;", 3, 17);
        fault("also 0 1;box a 0 0 1 0;box b 2 3;chain a;", 5, 7);
        // as many boxes as there is room for, all but the last of posts that there are not: 400 tokens
        StringBuilder many = new StringBuilder("also 0 1;");
        for (int i = 0; i < 97; i++) {
            many.append("box q").append((char) ('a' + i / 26)).append((char) ('a' + i % 26)).append(" 9;");
        }
        fault(many + "box z 0 1;crowd z;", 5, 7);
        fault(many + "box z 0 1;crowd q;", 5, 9 + 8);
    }

    /** An INT that is no POST parts the two on both sides of it: the chain does not say 0 1, so the second also is TWICE. */
    private static void rowsOfFaults() {
        C.promise(10, "The tape, which is empty then, is read: 0, or the number of its FAULT.");
        C.terms("II", "a CHAIN of a BOX (of two POSTS or more) each two beside one another in its ROW");
        C.terms("III", "(An INT is a POST; a BOX's INTS are its ROW.)");
        fault("also 0 1;also 1 0;box a 0 9 1;box b 2 3;chain a;", 3, 16);
        fault("also 0 1;also 1 0;box a 9 0 1;box b 2 3;chain a;", 5, 7);
        fault("also 0 1;also 1 0;box a 0 9 1;box b 2 3;crowd a;", 5, 7);
        fault("also 0 1;box a 0 9 1;box b 2 3;chain a;", 5, 17);
        fault("also 0 1;box a 0 9 1;box b 2 3;crowd a;", 5, 7);
        fault("also 2 3;also 3 2;box a 0 1;box b 2 4 4 3 4;chain b;", 3, 16);
    }

    private static void placesOfFaults() {
        C.terms("III", "FAULTS, the first by its place (a byte; the text's end: its length), of one place the least");
        fault("!", 1, 0);
        fault(ALL + "not 0 1;crowd b;star 9 a;", 5, 20);
        fault(ALL + "crowd b;not 0 1;star 9 a;", 4, 20);
        fault(ALL + "star 9 a;crowd b;not 0 1;", 5, 19);
        fault(ALL + "star 9 b;", 5, 19);
        fault(ALL + "crowd a;crowd a;crowd b;", 3, 22);
        fault(ALL + "crowd b;crowd a;crowd a;", 4, 20);
        // an also is wrong at its own place, though the word that says its pair is told far behind
        fault("also 0 1;box a 0 1 2;crowd b;crowd a;", 5, 7);
        fault("crowd b;also 0 1;box a 0 1 2;crowd a;", 4, 6);
        // the text's end is behind all bytes
        fault("box a 0 1 2;crowd a;crowd a;", 3, 20);
        fault("box a 0 1 2;crowd a;", 6, 20);
        fault("box a 0 1 2;crowd a;   ", 6, 23);
        fault("box a 0 1 2;crowd a   ", 1, 22);
    }

    private static void ofOnePlaceTheLeast() {
        C.terms("III", "of one place the least");
        // 3 and 5: a pair told twice that no word says
        fault(ALL + "also 0 1;not 0 1;", 3, 29);
        fault(ALL + "not 0 1;not 0 1;", 5, 20);
        // 3 and 5: told twice, both said by a word told behind; the first is wrong ahead of it
        fault(ALL + "also 0 1;also 1 0;crowd a;", 5, 21);
        fault(ALL + "also 0 1;also 1 0;", 3, 30);
        fault(ALL + "crowd a;not 0 1;also 0 1;", 3, 37);
        // 4 and 5: sides of one name that no box has
        fault(ALL + "sides b b;", 4, 20);
        // 1 and 2: a 401st token with which no text goes on
        fault(most() + "box b 0 1;;", 1, most().length() + 10);
    }

    private static void syntax() {
        C.terms("III", "1 SYNTAX: a TOKEN, or what is none, with which no text goes on.");
        fault("a", 1, 0);
        fault("0", 1, 0);
        fault(";", 1, 0);
        fault(ALL + ";", 1, 14);
        fault(ALL + "crowd a b;", 1, 22);
        fault(ALL + "sides a;", 1, 21);
        fault(ALL + "star a 0;", 1, 19);
        fault(ALL + "not 0 1 2;", 1, 22);
        fault(ALL + "also 0;", 1, 20);
        // even the last byte, behind faults of meaning
        fault("crowd z;box a 9 9;sides a a;?", 1, 28);
        fault("crowd z;box a 9 9;sides a a", 1, 27);
        // no text goes on with the end of one that is not whole
        fault("box", 1, 3);
        fault("box a 0 1 2 3;crowd a\n", 1, 22);
    }

    /** 395 tokens for four posts. */
    private static String most() {
        return ALL + "also 0 1;".repeat(97);
    }

    private static void tokens401() {
        C.terms("III", "2 ROOM: a 401st TOKEN");
        // four boxes of 16 posts, 28 tokens, and 93 pairs of four tokens each: 400
        StringBuilder text = new StringBuilder("box a 0 1 2 3;box b 4 5 6 7;box c 8 9 10 11;box d 12 13 14 15;");
        int pairs = 0;
        for (int a = 0; a < 16; a++) {
            for (int b = a + 1; b < 16 && pairs < 93; b++) {
                text.append("also ").append(a).append(' ').append(b).append(';');
                pairs++;
            }
        }
        ToldNet x = Check.net(16);
        C.due("400 tokens", Check.read(x, text.toString()), 0);
        C.due("its excepts", x.count(30), 93);
        fault(16, text + "also", 2, text.length());
        fault(16, text + "also 14 15;", 2, text.length());
        fault(16, text + " \t box", 2, text.length() + 3);
        fault(16, text + "  ", 0, -1);
        fault(16, text + "!", 1, text.length());
        fault(16, text + "z", 1, text.length());
        fault(16, text + "also 14 15;!", 2, text.length());
        // the 400th token is the last there is room for, but no whole text
        fault(most() + "box b 0 1", 1, most().length() + 9);
        fault(most() + "box b 0 1;", 3, 14 + 9 + 7);
        fault(most() + "box b 0 1 2", 1, most().length() + 11);
        fault(most() + "box b 0 1 2 3", 2, most().length() + 12);
        fault(most() + "box b 0 1 2;", 2, most().length() + 11);
    }

    private static String words(int count) {
        StringBuilder text = new StringBuilder();
        for (int b = 0; b < 8; b++) {
            text.append("box ").append((char) ('a' + b)).append(' ').append(2 * b).append(' ').append(2 * b + 1).append(';');
        }
        int words = 0;
        for (int b = 0; b < 8 && words < count; b++) {
            text.append("crowd ").append((char) ('a' + b)).append(';');
            words++;
        }
        for (int b = 0; b < 8 && words < count; b++) {
            text.append("chain ").append((char) ('a' + b)).append(';');
            words++;
        }
        for (int b = 0; b < 8; b++) {
            for (int c = b + 1; c < 8 && words < count; c++) {
                text.append("sides ").append((char) ('a' + b)).append(' ').append((char) ('a' + c)).append(';');
                words++;
            }
        }
        return text.toString();
    }

    private static void words41() {
        C.terms("III", "a 41st WORD (at its first TOKEN)");
        ToldNet x = Check.net(16);
        C.due("40 words", Check.read(x, words(40)), 0);
        C.due("its words", x.count(20), 40);
        C.due("the last word", x.word(0, 39, 0), 3);
        int length = words(40).length();
        for (String word : new String[] {"crowd a;", "chain a;", "sides g h;", "star 0 b;"}) {
            fault(16, words(40) + word, 2, length);
            fault(16, words(40) + " " + word, 2, length + 1);
            fault(16, words(40) + word.substring(0, 5), 2, length);
            fault(16, words(39) + word.replace(" a", " b"), word.startsWith("c") ? 3 : 0,
                word.startsWith("c") ? words(39).length() : -1);
        }
        fault(16, words(41), 2, words(40).length());
        // pairs and boxes are no words
        fault(16, words(40) + "not 0 1;", 0, -1);
        fault(16, words(40) + "box z 0;", 3, length + 6);
    }

    private static void roomAndSyntaxFirst() {
        C.terms("III", "If there is none, likewise:");
        // 1 and 2 come ahead of all others, wherever these stand
        fault("crowd z;" + ALL + "crowd a;".repeat(40), 2, 8 + 14 + 39 * 8);
        fault("crowd z;" + ALL + "crowd a;".repeat(39), 4, 6);
        fault("star 99 z;" + ALL + "0", 1, 24);
        // of these two the first by its place
        fault(ALL + "!" + "crowd a;".repeat(41), 1, 14);
        fault(ALL + "crowd a;".repeat(41) + "!", 2, 14 + 40 * 8);
    }

    private static void nameTwice() {
        C.terms("III", "3 TWICE: a BOX's NAME told already");
        fault("box a 0 1;box a 2 3;", 3, 14);
        fault("box a 0 1;box  a 2 3;", 3, 15);
        fault("box a 0;box b 1;box c 2;box a 3;", 3, 28);
        fine("box a 0;box b 1;box aa 2;box ab 3;");
        fault("box abcdefgh 0 1;box abcdefgh 2 3;", 3, 21);
        fine("box abcdefgh 0 1;box abcdefgi 2 3;");
    }

    private static void postTwice() {
        C.terms("III", "a POST that is in a BOX already");
        fault("box a 0 0 1 2 3;", 3, 8);
        fault("box a 0 1 2 3 3;", 3, 14);
        fault("box a 0 1;box b 2 3 1;", 3, 20);
        fault("box a 0 1;box b 01 2 3;", 3, 16);
        fine("box a 0 1;box b 2 3;");
    }

    private static void wordTwice() {
        C.terms("III", "a WORD told already (at its first TOKEN)");
        fault(TWO + "crowd a;crowd a;", 3, 28);
        fault(TWO + "chain b;  chain b;", 3, 30);
        fault(TWO + "sides a b;sides a b;", 3, 30);
        fault(TWO + "sides a b;sides b a;", 3, 30);
        fault(TWO + "star 0 b;star 0 b;", 3, 29);
        fault(TWO + "star 0 b;star 00 b;", 3, 29);
        fault(TWO + "crowd a;chain a;crowd b;chain b;star 0 a;star 1 a;star 0 b;star 2 b;sides a b;chain a;", 3, 98);
        fine(TWO + "crowd a;chain a;crowd b;chain b;star 0 a;star 1 a;star 0 b;star 2 b;sides a b;");
    }

    private static void pairTwice() {
        C.terms("III", "a pair told by not or also already (at its second INT)");
        fault(ALL + "also 0 1;also 0 1;", 3, 30);
        fault(ALL + "also 0 1;also 1 0;", 3, 30);
        fault(ALL + "also 0 1;also 01  00;", 3, 32);
        fault(ALL + "crowd a;not 0 1;not 1 0;", 3, 36);
        fault(ALL + "crowd a;not 0 1;also 1 0;", 3, 37);
        fine(ALL + "also 0 1;also 0 2;also 1 2;also 3 0;also 3 1;also 3 2;");
    }

    private static void noSuchName() {
        C.terms("III", "4 NAME: no such BOX told ahead.");
        for (String word : new String[] {"crowd z;", "chain z;", "star 0 z;", "sides z a;", "sides a z;"}) {
            int at = word.indexOf('z');
            fault(ALL + word, 4, 14 + at);
            fault("box a 0 1;" + word + "box z 2 3;", 4, 10 + at);
            fine("box a 0 1;box z 2 3;" + word);
        }
        fault("sides y z;" + ALL, 4, 6);
        fault("crowd a;" + ALL, 4, 6);
    }

    private static void intsTooLarge() {
        C.terms("III", "5 WRONG: an INT n or above");
        for (int n = 2; n <= 16; n++) {
            StringBuilder box = new StringBuilder("box a");
            for (int p = 0; p < n; p++) {
                box.append(' ').append(p);
            }
            int end = box.length() + 1;
            fault(n, box + ";", 0, -1);
            fault(n, box + " " + n + ";", 5, end);
            fault(n, box + ";star " + (n - 1) + " a;", 0, -1);
            fault(n, box + ";star " + n + " a;", 5, end + 5);
            fault(n, box + ";also 0 " + (n - 1) + ";", 0, -1);
            fault(n, box + ";also 0 " + n + ";", 5, end + 7);
            fault(n, box + ";also " + n + " 0;", 5, end + 5);
            fault(n, box + ";crowd a;not 0 " + (n - 1) + ";", 0, -1);
            fault(n, box + ";crowd a;not 0 " + n + ";", 5, end + 14);
            fault(n, box + ";crowd a;not " + n + " 9999;", 5, end + 12);
        }
        fault("box a 0 1 2 3 65536;", 1, 14);
        fault("box a 0 1 2 3 9999;", 5, 14);
        fault("box a 0 1 2 3 0256;", 5, 14);
    }

    private static void sidesOfItself() {
        C.terms("III", "SIDES of a BOX with itself (at the second NAME)");
        fault(TWO + "sides a a;", 5, 28);
        fault(TWO + "sides  b   b;", 5, 31);
        fine(TWO + "sides a b;");
        fine(TWO + "sides b a;");
        fault("box a 0 1 2;also 0 1;also 1 0;sides a a;box b 3;", 5, 19);
    }

    private static void ofOnePost() {
        C.terms("III", "a CROWD, a CHAIN of one POST (at its NAME)");
        for (String word : new String[] {"crowd", "chain"}) {
            fault("box a 0;box b 1 2 3;" + word + " a;", 5, 26);
            fine("box a 0 3;box b 1 2;" + word + " a;");
            fault("box a 0 1 2;box b 3;" + word + "  b ;", 5, 27);
        }
    }

    private static void starAlone() {
        C.terms("III", "a STAR whose BOX has no other POST than it (at its NAME)");
        fault("box a 0;box b 1 2 3;star 0 a;", 5, 27);
        fine("box a 0;box b 1 2 3;star 1 a;");
        fine("box a 0 1;box b 2 3;star 0 a;");
        fine("box a 0 1;box b 2 3;star 2 a;");
        fault("box b 0 1 2;box a 3;star  3  a;", 5, 29);
    }

    private static void pairOfItself() {
        C.terms("III", "a pair of a POST with itself");
        for (int p = 0; p < 4; p++) {
            fault(ALL + "also " + p + " " + p + ";", 5, 21);
            fault(ALL + "crowd a;not " + p + " 0" + p + ";", 5, 28);
        }
        fine(ALL + "also 2 3;");
    }

    private static void notSaid() {
        C.terms("III", "a not of a pair that no WORD told ahead says");
        fault(TWO + "not 0 1;crowd a;", 5, 26);
        fine(TWO + "crowd a;not 0 1;");
        fault(TWO + "crowd a;not 2 3;", 5, 34);
        fine(TWO + "sides a b;not 0 2;not 3 1;");
        fault(TWO + "sides a b;not 0 1;", 5, 36);
        fine("box a 0 2 1 3;chain a;not 0 2;not 1 2;not 3 1;");
        fault("box a 0 2 1 3;chain a;not 0 1;", 5, 28);
        fault("box a 0 2 1 3;chain a;not 3 0;", 5, 28);
        fine(TWO + "star 0 b;not 0 2;not 3 0;");
        fault(TWO + "star 0 b;not 1 2;", 5, 35);
        fine(ALL + "star 2 a;not 2 1;");
        fault(ALL + "star 2 a;not 0 1;", 5, 29);
    }

    private static void alsoSaid() {
        C.terms("III", "an also of one that some WORD says, told ahead or behind (at its second INT)");
        fault(TWO + "crowd a;also 0 1;", 5, 35);
        fault(TWO + "also 0 1;crowd a;", 5, 27);
        fault("also 0 1;" + TWO + "crowd a;", 5, 7);
        fine("also 0 2;" + TWO + "crowd a;");
        fine("also 0 1;" + TWO);
        fault(TWO + "also 3 1;sides a b;", 5, 27);
        fault(TWO + "star 0 b;also 3 0;", 5, 36);
        fault("box a 0 2 1 3;also 2 1;chain a;", 5, 21);
        fine("box a 0 2 1 3;also 0 1;chain a;");
    }

    private static void open() {
        C.terms("III", "6 OPEN: a POST in no BOX (at the text's end).");
        fault("", 6, 0);
        fault(" ", 6, 1);
        fault("box a 1 2 3;", 6, 12);
        fault("box a 0 1 2;", 6, 12);
        fault("box a 0 1 2;\n\n", 6, 14);
        fine("box a 0 1 2;box b 3;");
        StringBuilder box = new StringBuilder("box a");
        for (int p = 0; p < 15; p++) {
            box.append(' ').append(p);
        }
        fault(16, box + ";", 6, box.length() + 1);
        fault(16, box + ";box b 15;", 0, -1);
    }

    private static ToldNet some() {
        ToldNet x = Check.net(4, 0, 1, 2, 3);
        x.make(1);
        x.leave(0, 0, true);
        x.reader(1, 0, 0, 4);
        return x;
    }

    private static void changesNothing() {
        C.terms("III", "A text with a FAULT changes nothing; else it is a TELLING.");
        for (String text : new String[] {"!", ALL + "crowd a;".repeat(41), ALL + "box a 0;", ALL + "crowd b;", ALL + "not 0 1;",
            "box a 0;"}) {
            ToldNet x = some();
            String was = Check.state(x);
            C.due("a fault", Check.read(x, text) > 0, true);
            C.due("nothing but the place", Check.state(x).replaceAll("fault at \\d+", ""), was.replaceAll("fault at -1", ""));
            // what a faulty text told is not there for the next one
            C.due("box a is free again", Check.read(x, TWO + "crowd a;not 0 1;"), 0);
            C.due("a telling", x.count(4), 2);
            C.due("its own boxes", x.count(11), 2);
            C.due("its own words", x.count(21), 1);
            C.due("its own excepts", x.count(31), 1);
        }
    }

    private static void tellings() {
        C.terms("III", "TELLINGS, 5 at most, are numbered from 0 on (told by texts, made, copied).");
        ToldNet x = Check.net(4, 0, 1);
        C.due("told", Check.read(x, ALL), 0);
        C.due("made", x.make(0), 1);
        C.due("copied", x.copy(0), 2);
        C.due("told", Check.read(x, TWO), 0);
        C.due("the text's number", x.count(13), 2);
        C.due("copied", x.copy(3), 4);
        C.due("five", x.count(4), 5);
        C.due("not made", x.make(0), -1);
        C.due("not copied", x.copy(0), -1);
        C.due("not told", Check.read(x, ALL), -2);
        C.due("no telling 5", x.length(5), -1);
        C.due("telling 4", x.count(14), 2);
    }

    private static void read() {
        C.promise(10, "The tape, which is empty then, is read: 0, or the number of its FAULT.");
        ToldNet x = Check.net(4);
        String[] texts = {ALL, "!", ALL + "crowd a;".repeat(41), ALL + "box a 0;", ALL + "crowd b;", ALL + "not 0 1;", "box a 0;"};
        for (int number = 0; number < texts.length; number++) {
            C.due("number", Check.read(x, texts[number]), number);
            C.due("empty then", x.count(6), 0);
            C.due("none to go", x.back(1), -1);
            C.due("the empty tape", x.read(), 6);
        }
        C.due("one telling", x.count(4), 1);
    }

    private static ToldNet full() {
        ToldNet x = Check.net(2);
        Check.read(x, "!");
        for (int t = 0; t < 5; t++) {
            x.make(0);
        }
        Check.feed(x, "    box a 0 1;");
        return x;
    }

    private static void refused() {
        C.promise(10, "-2, and the tape stays: 5 TELLINGS are there.");
        C.refused(TextEdges::full, -2, ToldNet::read, ToldNet::read);
        ToldNet x = full();
        x.read();
        x.drop();
        C.due("read with four", x.read(), 0);
        C.due("five again", x.count(4), 5);
        C.due("nothing to read is refused too", x.read(), -2);
        Check.feed(x, "!");
        C.due("a fault is refused too", x.read(), -2);
        x.drop();
        C.due("a fault with four", x.read(), 1);
        C.due("four", x.count(4), 4);
    }

    private static void place() {
        C.promise(11, "The byte of the latest read()'s FAULT (that was not -2); NONE without.");
        ToldNet x = Check.net(2);
        C.due("no read yet", x.place(), -1);
        Check.read(x, "   !");
        C.due("of a fault", x.place(), 3);
        C.due("told again", x.place(), 3);
        Check.read(x, "box a 0;");
        C.due("of the latest", x.place(), 8);
        Check.read(x, "box a 0 1;");
        C.due("without a fault", x.place(), -1);
        x.read();
        C.due("at byte 0", x.place(), 0);
        List<Integer> calls = new ArrayList<>(List.of(x.drop(), x.make(0), x.make(0), x.make(0), x.make(0), x.make(0)));
        Check.feed(x, " !");
        C.due("refused", x.read() + calls.size(), 4);
        C.due("not of one refused", x.place(), 0);
        x.drop();
        C.due("with four", x.read(), 1);
        C.due("its place", x.place(), 1);
        x.net(3);
        C.due("of the latest read, whatever the net", x.place(), 1);
        C.due("of a new object", new ToldNet().place(), -1);
    }
}
