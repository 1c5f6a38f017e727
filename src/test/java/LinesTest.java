/** Promises 5 to 7: word, clear, fits. */
public final class LinesTest {
    private static final int NONE = AddressGrammar.NONE, OUTSIDE = AddressGrammar.OUTSIDE;
    private static final int STATE = AddressGrammar.STATE, ROOM = AddressGrammar.ROOM;

    public static void main(String[] args) {
        numbersOfWords();
        wordsOutside();
        wordsOutOfOrder();
        wordsWithoutRoom();
        refusedWordsChangeNothing();
        edgesOfWords();
        clears();
        fitsAnswers();
        fitsWithoutRoom();
        fitsStay();
        Due.end("LinesTest");
    }

    private static void numbersOfWords() {
        AddressGrammar x = new AddressGrammar();
        for (int line = 0; line < 6; line++) {
            for (int place = 0; place < 5; place++) {
                for (int number = 0; number < 4; number++) {
                    Due.is("word", x.word(line, number, place * 1000 + 999, 1000), number);
                }
            }
        }
        Due.is("word in a full line", x.word(0, 0, 0, 0), ROOM);
        Due.is("word in the last place", x.word(5, 0, 4000, 0), ROOM);
        Due.is("clear() of six", x.clear(), 6);
    }

    private static void wordsOutside() {
        AddressGrammar x = new AddressGrammar();
        int[][] no = {{-1, 0, 0, 0}, {6, 0, 0, 0}, {0, -1, 0, 0}, {0, 9, 0, 0}, {0, 0, -1, 0}, {0, 0, 5000, 0},
            {0, 0, 0, -1}, {0, 0, 0, 1001}, {Integer.MIN_VALUE, 0, 0, 0}, {Integer.MAX_VALUE, 0, 0, 0},
            {0, Integer.MIN_VALUE, 0, 0}, {0, Integer.MAX_VALUE, 0, 0}, {0, 0, Integer.MIN_VALUE, 0},
            {0, 0, Integer.MAX_VALUE, 0}, {0, 0, -999, 0}};
        for (int[] row : no) {
            Due.is("word outside", x.word(row[0], row[1], row[2], row[3]), OUTSIDE);
        }
        Due.is("word of a great cost", x.word(0, 0, 0, 1L << 32), OUTSIDE);
        Due.is("word of the greatest cost", x.word(0, 0, 0, Long.MAX_VALUE), OUTSIDE);
        Due.is("word of the least cost", x.word(0, 0, 0, Long.MIN_VALUE), OUTSIDE);
        Due.is("OUTSIDE before STATE", x.word(5, 9, 4000, 0), OUTSIDE);
        Due.is("clear()", x.clear(), 0);
        for (int i = 0; i < 4; i++) {
            x.word(0, 0, 0, 0);
        }
        Due.is("OUTSIDE before ROOM", x.word(0, 0, 0, 1001), OUTSIDE);
    }

    private static void wordsOutOfOrder() {
        AddressGrammar x = new AddressGrammar();
        Due.is("line 1 first", x.word(1, 0, 0, 0), STATE);
        Due.is("place 1 first", x.word(0, 0, 1000, 0), STATE);
        Due.is("clear() behind refusals", x.clear(), 0);
        Due.is("line 0", x.word(0, 0, 0, 0), 0);
        Due.is("line 2", x.word(2, 0, 0, 0), STATE);
        Due.is("place 2 of line 0", x.word(0, 0, 2000, 0), STATE);
        Due.is("place 1 of line 1", x.word(1, 0, 1000, 0), STATE);
        Due.is("place 1 of line 0", x.word(0, 0, 1000, 0), 0);
        Due.is("line 1", x.word(1, 0, 0, 0), 0);
        Due.is("place 2 of line 0, later", x.word(0, 0, 2000, 0), 0);
        Due.is("place 0 of line 0, later", x.word(0, 0, 0, 0), 1);
        for (int i = 0; i < 3; i++) {
            x.word(1, 0, 0, 0);
        }
        Due.is("the next place, though the one before is full", x.word(1, 0, 1000, 0), 0);
        Due.is("line 4, far behind", x.word(4, 0, 0, 0), STATE);
    }

    private static void wordsWithoutRoom() {
        AddressGrammar x = Due.with("N;");
        for (int number = 0; number < 4; number++) {
            Due.is("word", x.word(0, 0, number, 9 - number), number);
        }
        Due.is("a fifth", x.word(0, 0, 5, 0), ROOM);
        Due.is("a fifth of another kind", x.word(0, 8, 5, 0), ROOM);
        Due.is("sum", x.sum(0), 6);
        Due.is("value", x.part(0, 0, 3), 3);
    }

    private static void refusedWordsChangeNothing() {
        AddressGrammar x = Due.with("N?9;");
        Due.is("sum without lines", x.sum(0), 9);
        x.word(1, 0, 0, 0);
        x.word(0, 0, 1000, 0);
        x.word(0, 0, 0, 1001);
        Due.is("sum behind refusals", x.sum(0), 9);
        Due.is("clear()", x.clear(), 0);
    }

    private static void edgesOfWords() {
        AddressGrammar x = Due.with("NFSHX;");
        for (int place = 0; place < 5; place++) {
            Due.is("word", x.word(0, place, place * 1000 + (place % 2 == 0 ? 999 : 0), place == 4 ? 1000 : 0), 0);
        }
        for (int i = 0; i < 5; i++) {
            Due.is("kind", x.part(0, i, 0), i);
            Due.is("line", x.part(0, i, 1), 0);
            Due.is("place", x.part(0, i, 2), i);
            Due.is("value", x.part(0, i, 3), i % 2 == 0 ? 999 : 0);
            Due.is("alternative", x.part(0, i, 4), 0);
        }
        Due.is("sum", x.sum(0), 1000);
    }

    private static void clears() {
        AddressGrammar x = Due.with("N;F?2;");
        x.word(0, 0, 1, 1);
        x.word(1, 1, 2, 1);
        x.print(0);
        Due.is("clear()", x.clear(), 2);
        Due.is("clear() again", x.clear(), 0);
        Due.is("what was printed stays", Due.printed(x), "N1;F2;");
        Due.is("no reading", x.derive(0), NONE);
        Due.is("line 1 is behind the next one", x.word(1, 0, 0, 0), STATE);
        Due.is("place 1 is behind the next one", x.word(0, 0, 1000, 0), STATE);
        Due.is("the first alternative again", x.word(0, 0, 7, 1), 0);
        Due.is("the form stays", x.sum(0), 3);
        Due.is("its value", x.part(0, 0, 3), 7);
        Due.is("line 1 has no old places", x.word(1, 1, 1000, 0), STATE);
    }

    private static void fitsAnswers() {
        AddressGrammar x = new AddressGrammar();
        for (int kind = -2; kind < 12; kind++) {
            Due.is("fits of kind " + kind, x.fits(kind, 1, 2), kind == 2 || kind == 6);
        }
        Due.is("again", x.fits(2, 1, 2), false);
        Due.is("the other way round", x.fits(2, 2, 1), true);
        Due.is("another place", x.fits(2, 1, 3), true);
        Due.is("another street", x.fits(2, 3, 2), true);
        Due.is("edges", x.fits(6, 0, 999), true);
        Due.is("edges", x.fits(6, 999, 0), true);
        int[] no = {-1, 1000, Integer.MIN_VALUE, Integer.MAX_VALUE};
        for (int value : no) {
            Due.is("fits(6, " + value + ", 0)", x.fits(6, value, 0), false);
            Due.is("fits(2, 0, " + value + ")", x.fits(2, 0, value), false);
        }
    }

    private static void fitsWithoutRoom() {
        AddressGrammar x = Due.with("S;P;");
        x.word(0, 2, 60, 0);
        x.word(1, 7, 5, 0);
        for (int i = 0; i < 60; i++) {
            Due.is("fits " + i, x.fits(i % 2 == 0 ? 2 : 6, i, 5), true);
            Due.is("fits " + i + " again", x.fits(i % 2 == 0 ? 2 : 6, i, 5), false);
        }
        Due.is("the 61st", x.fits(2, 60, 5), false);
        Due.is("sum without it", x.sum(0), 100);
        x.clear();
        x.word(0, 2, 58, 0);
        x.word(1, 7, 5, 0);
        Due.is("sum with the last street", x.sum(0), 0);
    }

    private static void fitsStay() {
        AddressGrammar x = new AddressGrammar();
        x.fits(6, 4, 5);
        Due.form(x, "CP;", 1);
        x.word(0, 6, 4, 0);
        x.word(0, 7, 1005, 0);
        Due.is("told before the form", x.sum(0), 0);
        x.clear();
        x.word(0, 6, 4, 0);
        x.word(0, 7, 1005, 0);
        Due.is("told before clear()", x.sum(0), 0);
        x.clear();
        x.word(0, 6, 5, 0);
        x.word(0, 7, 1004, 0);
        Due.is("not the other way round", x.sum(0), 100);
    }
}
