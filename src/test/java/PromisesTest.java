/** Promises 1 to 13: each sentence that names a boundary case has a test of its own here, below its words. */
public final class PromisesTest {
    private static final int NONE = AddressGrammar.NONE, OUTSIDE = AddressGrammar.OUTSIDE;
    private static final int STATE = AddressGrammar.STATE, ROOM = AddressGrammar.ROOM;
    private static final int LEAST = Integer.MIN_VALUE, GREATEST = Integer.MAX_VALUE;
    private static final int[] NO_RANKS = {-1, 2, 3, -2, 1 << 16, LEAST, GREATEST, LEAST + 1};

    public static void main(String[] args) {
        noForm();
        noText();
        noLines();
        eachObjectForItself();
        roomForASign();
        signsThatAre();
        howManyRows();
        theTextIsEmptyBehindAForm();
        aFaultAtNothing();
        theTextIsEmptyBehindAFault();
        theFormBeforeStays();
        theLatestFault();
        neverAFault();
        numbersOfWords();
        cutValues();
        wordsOutside();
        linesBehindTheNext();
        placesBehindTheNext();
        wordsWithoutRoom();
        allLinesAreGone();
        clearAnswers();
        whetherItIsNew();
        anotherKind();
        noValues();
        thereAreSixty();
        derivesParts();
        derivesNothing();
        factsOfParts();
        noSuchPart();
        partsOutside();
        sums();
        furthestWithoutAForm();
        furthestWithLines();
        furthestBeginnings();
        printedParts();
        printedDigits();
        printedRows();
        printedNothing();
        ranksOutside();
        charactersPrinted();
        theLastOf512Calls();
        Due.end("PromisesTest");
    }

    // Promise 1

    private static void noForm() {
        Due.says("AddressGrammar(): No form");
        AddressGrammar x = new AddressGrammar();
        Due.is("furthest()", x.furthest(), NONE);
        Due.is("derive(0)", x.derive(0), NONE);
        Due.is("sum(0)", x.sum(0), NONE);
        Due.is("part(0, 0, 0)", x.part(0, 0, 0), NONE);
        Due.is("print(0)", x.print(0), 0);
        Due.is("at(0)", x.at(0), NONE);
        Due.is("wrong()", x.wrong(), NONE);
        x.word(0, 0, 0, 0);
        Due.is("furthest() with a line", x.furthest(), NONE);
        Due.is("derive(0) with a line", x.derive(0), NONE);
    }

    private static void noText() {
        Due.says("AddressGrammar(): no text");
        Due.fault(new AddressGrammar(), "", 0);
        AddressGrammar x = new AddressGrammar();
        for (int i = 0; i < 60; i++) {
            Due.is("sign", x.sign(' '), true);
        }
        Due.form(new AddressGrammar(), "N;", 1);
    }

    private static void noLines() {
        Due.says("AddressGrammar(): no lines");
        Due.is("clear()", new AddressGrammar().clear(), 0);
        Due.is("word to line 1", new AddressGrammar().word(1, 0, 0, 0), STATE);
        Due.is("word to place 1", new AddressGrammar().word(0, 0, 1000, 0), STATE);
        Due.is("word to line 0", new AddressGrammar().word(0, 0, 0, 0), 0);
        Due.is("furthest()", Due.with("N?1;").furthest(), 0);
        Due.is("sum(0)", Due.with("N?1;").sum(0), 1);
    }

    private static void eachObjectForItself() {
        Due.says("AddressGrammar(): also when another one is in use");
        AddressGrammar x = Due.with("S;P;");
        x.word(0, 2, 1, 0);
        x.word(1, 7, 2, 0);
        x.fits(2, 1, 2);
        Due.fault(x, "S;?", 2);
        Due.write(x, "N");
        x.print(0);
        AddressGrammar y = new AddressGrammar();
        Due.is("furthest()", y.furthest(), NONE);
        Due.is("wrong()", y.wrong(), NONE);
        Due.is("clear()", y.clear(), 0);
        Due.is("at(0)", y.at(0), NONE);
        Due.form(y, "S;P;", 2);
        y.word(0, 2, 1, 0);
        y.word(1, 7, 2, 0);
        Due.is("sum(0)", y.sum(0), 100);
        Due.is("sum(0) of the first one", x.sum(0), 0);
        Due.is("fits", y.fits(2, 1, 2), true);
        Due.is("what the first one printed", Due.printed(x), "S1;P2;");
    }

    // Promise 2

    private static void roomForASign() {
        Due.says("A character more behind the text: whether there is room for it");
        AddressGrammar x = new AddressGrammar();
        for (int times = 0; times < 2; times++) {
            Due.write(x, "N?12F;");
            for (int i = 6; i < 60; i++) {
                Due.is("sign " + i, x.sign('S'), true);
            }
            Due.is("the 61st", x.sign('S'), false);
            Due.is("the 61st again", x.sign(32), false);
            Due.fault(x, "", 7);
        }
        Due.form(x, "NF;S;", 2);
    }

    private static void signsThatAre() {
        Due.says("(c 32 .. 126)");
        int[] no = {31, 127, 0, -1, 9, 10, 128, 255, 256 + 'F', 65536 + 'F', -65536 + 'F', LEAST, GREATEST, LEAST + 'F'};
        for (int c : no) {
            AddressGrammar x = Due.with("N;");
            Due.write(x, "N");
            Due.is("sign(" + c + ")", x.sign(c), false);
            Due.form(x, ";", 1);
        }
        for (int c = -300; c <= 70000; c++) {
            Due.is("sign(" + c + ")", new AddressGrammar().sign(c), c >= 32 && c <= 126);
        }
    }

    // Promise 3

    private static void howManyRows() {
        Due.says("The text becomes the FORM: how many rows");
        AddressGrammar x = new AddressGrammar();
        Due.form(x, "N;", 1);
        Due.form(x, "NFSHXBCPL;", 1);
        Due.form(x, "NFSHXBCP;L;", 2);
        Due.form(x, "N;F;S;H;X;B;C;P;L;", 9);
        Due.is("nine rows and no line", x.furthest(), 0);
        Due.form(x, "L?0;", 1);
        Due.is("nothing of the form before", x.sum(0), 0);
    }

    private static void theTextIsEmptyBehindAForm() {
        Due.says("(and is empty)");
        AddressGrammar x = Due.with("N;");
        Due.is("read of nothing", Due.read(x), Plain.THROWS);
        Due.is("wrong()", x.wrong(), 0);
        Due.form(x, "N;F;", 2);
        Due.form(x, "N;", 1);
        for (int i = 0; i < 60; i++) {
            Due.is("room for 60", x.sign(';'), true);
        }
        Due.is("and no more", x.sign(';'), false);
    }

    private static void aFaultAtNothing() {
        Due.says("IllegalStateException: a FAULT (at 0 of a text without a character");
        AddressGrammar x = new AddressGrammar();
        Due.fault(x, "NF", 2);
        Due.is("read of nothing", Due.read(x), Plain.THROWS);
        Due.is("wrong()", x.wrong(), 0);
        Due.is("read of nothing, again", Due.read(x), Plain.THROWS);
        Due.is("wrong(), again", x.wrong(), 0);
    }

    private static void theTextIsEmptyBehindAFault() {
        Due.says("the text is empty then");
        AddressGrammar x = new AddressGrammar();
        Due.fault(x, "NF", 2);
        Due.form(x, "NF;", 1);
        Due.fault(x, "NN;", 1);
        Due.fault(x, "", 0);
        Due.fault(x, "N;;", 2);
        for (int i = 0; i < 60; i++) {
            Due.is("room for 60", x.sign(';'), true);
        }
        Due.is("and no more", x.sign(';'), false);
        Due.fault(x, "", 0);
        Due.form(x, "N;F;", 2);
    }

    private static void theFormBeforeStays() {
        Due.says("the form before stays");
        AddressGrammar x = Due.with("N?5F?6;S;");
        x.word(0, 2, 4, 1);
        String[] faults = {"", "L", "S?7", "S;N?9;?", "NFSHXBCPL;N", "L?1;P?1;C?1;S"};
        for (String fault : faults) {
            Due.write(x, fault);
            Due.is("read of " + fault, Due.read(x), Plain.THROWS);
            Due.is("sum(0)", x.sum(0), 12);
            Due.is("furthest()", x.furthest(), 1);
            Due.is("derive(1)", x.derive(1), NONE);
        }
        AddressGrammar y = new AddressGrammar();
        Due.fault(y, "N?1;F", 5);
        Due.is("without one before: furthest()", y.furthest(), NONE);
        Due.is("without one before: derive(0)", y.derive(0), NONE);
    }

    // Promise 4

    private static void theLatestFault() {
        Due.says("The place of the latest FAULT (whatever was read behind it), 0 the first character");
        AddressGrammar x = new AddressGrammar();
        Due.fault(x, "N;F;?", 4);
        Due.form(x, "N;", 1);
        Due.is("behind a form", x.wrong(), 4);
        Due.form(x, "N;F;", 2);
        Due.is("behind two forms", x.wrong(), 4);
        Due.write(x, "NF");
        Due.is("before the next read", x.wrong(), 4);
        Due.fault(x, "", 2);
        Due.fault(x, "?", 0);
        x.clear();
        Due.form(x, "N;", 1);
        Due.is("the first character", x.wrong(), 0);
        Due.write(x, "N?999F?999S?999H?999X?999B?999C?999P?999L?999");
        Due.fault(x, "", 45);
        Due.write(x, "N?999;F?999;S?999;H?999;X?999;B?999;C?999;P?999;L?999;");
        Due.fault(x, "L", 54);
    }

    private static void neverAFault() {
        Due.says("NONE, if there never was one");
        AddressGrammar x = new AddressGrammar();
        Due.is("new", x.wrong(), NONE);
        x.sign('?');
        Due.is("a text that was not read", x.wrong(), NONE);
        AddressGrammar y = Due.with("N;");
        Due.is("a form", y.wrong(), NONE);
        y.word(1, 0, 0, 0);
        y.sign(0);
        y.print(2);
        Due.is("refusals are no faults", y.wrong(), NONE);
    }

    // Promise 5

    private static void numbersOfWords() {
        Due.says("An ALTERNATIVE more in a line: its number");
        AddressGrammar x = new AddressGrammar();
        Due.is("the first of line 0", x.word(0, 8, 999, 1000), 0);
        Due.is("the first of place 1", x.word(0, 0, 1000, 0), 0);
        Due.is("the second of place 0", x.word(0, 8, 999, 1000), 1);
        Due.is("the first of line 1", x.word(1, 8, 0, 0), 0);
        Due.is("the second of place 1", x.word(0, 0, 1999, 0), 1);
        Due.is("the third of place 0", x.word(0, 4, 5, 0), 2);
        Due.is("the second of line 1", x.word(1, 8, 0, 0), 1);
        Due.is("the fourth of place 0", x.word(0, 4, 5, 0), 3);
        Due.is("the third of line 1", x.word(1, 8, 0, 0), 2);
    }

    private static void cutValues() {
        Due.says("at place value / 1000 (cut), with the VALUE that is left");
        int[] values = {0, 1, 499, 500, 998, 999};
        for (int value : values) {
            AddressGrammar x = Due.with("NFSHX;");
            for (int place = 0; place < 5; place++) {
                Due.is("word", x.word(0, place, place * 1000 + value, 0), 0);
            }
            for (int place = 0; place < 5; place++) {
                Due.is("its place", x.part(0, place, 2), place);
                Due.is("its value", x.part(0, place, 3), value);
            }
        }
    }

    private static void wordsOutside() {
        Due.says("OUTSIDE (line 0 .. 5, kind, value 0 .. 4999, cost 0 .. 1000)");
        AddressGrammar x = full();
        int[] lines = {-1, 6, 7, -6, 1 << 29, LEAST, GREATEST, -2147483647};
        for (int line : lines) {
            Due.is("line " + line, x.word(line, 0, 0, 0), OUTSIDE);
        }
        int[] kinds = {-1, 9, 10, 256, LEAST, GREATEST};
        for (int kind : kinds) {
            Due.is("kind " + kind, x.word(0, kind, 0, 0), OUTSIDE);
        }
        int[] values = {-1, -999, -1000, 5000, 5001, 9999, LEAST, GREATEST};
        for (int value : values) {
            Due.is("value " + value, x.word(0, 0, value, 0), OUTSIDE);
        }
        long[] costs = {-1, 1001, -1000, 1L << 32, (1L << 32) + 5, -(1L << 32), 1L << 31, Long.MIN_VALUE, Long.MAX_VALUE};
        for (long cost : costs) {
            Due.is("cost " + cost, x.word(0, 0, 0, cost), OUTSIDE);
        }
        Due.is("the least of all", x.word(0, 0, 0, 0), 1);
        Due.is("the greatest of all", x.word(5, 8, 4999, 1000), 1);
    }

    /** Six lines with five places, an alternative at each. */
    private static AddressGrammar full() {
        AddressGrammar x = new AddressGrammar();
        for (int i = 0; i < 30; i++) {
            x.word(i / 5, 0, i % 5 * 1000, 0);
        }
        return x;
    }

    private static void linesBehindTheNext() {
        Due.says("STATE (the line is behind the next one");
        for (int count = 0; count < 6; count++) {
            AddressGrammar x = new AddressGrammar();
            for (int line = 0; line < count; line++) {
                x.word(line, 0, 0, 0);
            }
            for (int line = count + 1; line < 6; line++) {
                Due.is("line " + line + " of " + count, x.word(line, 0, 0, 0), STATE);
            }
            Due.is("clear()", x.clear(), count);
            for (int line = 0; line < count; line++) {
                Due.is("line " + line, x.word(line, 0, 0, 0), 0);
            }
            Due.is("the next one", x.word(count, 0, 0, 0), 0);
        }
    }

    private static void placesBehindTheNext() {
        Due.says("or the place behind the next one of the line)");
        for (int line = 0; line < 6; line++) {
            AddressGrammar x = new AddressGrammar();
            for (int i = 0; i < line * 5; i++) {
                x.word(i / 5, 0, i % 5 * 1000, 0);
            }
            for (int count = 0; count < 5; count++) {
                for (int place = count + 1; place < 5; place++) {
                    Due.is("place " + place + " of " + count, x.word(line, 0, place * 1000 + 999, 0), STATE);
                }
                Due.is("the next one", x.word(line, 0, count * 1000, 0), 0);
            }
            Due.is("clear()", x.clear(), line + 1);
        }
    }

    private static void wordsWithoutRoom() {
        Due.says("ROOM");
        AddressGrammar x = Due.with("N;");
        for (int number = 0; number < 4; number++) {
            Due.is("word", x.word(0, 0, number, 9), number);
        }
        for (int kind = 0; kind < 9; kind++) {
            Due.is("a fifth", x.word(0, kind, 999, 0), ROOM);
        }
        Due.is("sum(0)", x.sum(0), 9);
        Due.is("the next place has room", x.word(0, 0, 1000, 0), 0);
        Due.is("the next line has room", x.word(1, 0, 0, 0), 0);
        Due.is("there is still none", x.word(0, 0, 0, 0), ROOM);
    }

    // Promise 6

    private static void allLinesAreGone() {
        Due.says("All lines are gone");
        AddressGrammar x = full();
        Due.form(x, "N?3;", 1);
        for (int number = 1; number < 4; number++) {
            x.word(0, 0, 0, 0);
        }
        Due.is("a reading with six lines", x.derive(0), NONE);
        x.clear();
        Due.is("a reading without lines", x.sum(0), 3);
        Due.is("furthest()", x.furthest(), 0);
        Due.is("line 1", x.word(1, 0, 0, 0), STATE);
        Due.is("place 1", x.word(0, 0, 1000, 0), STATE);
        Due.is("place 0 has room", x.word(0, 0, 7, 0), 0);
        Due.is("its place 2", x.word(0, 0, 2000, 0), STATE);
        Due.is("line 1 then", x.word(1, 0, 0, 0), 0);
        Due.is("line 2 is the next one", x.word(3, 0, 0, 0), STATE);
        Due.is("clear() then", x.clear(), 2);
    }

    private static void clearAnswers() {
        Due.says("how many there were");
        AddressGrammar x = new AddressGrammar();
        for (int count = 0; count <= 6; count++) {
            for (int line = 0; line < count; line++) {
                x.word(line, 0, 0, 0);
                x.word(line, 0, 1000, 0);
                x.word(line, 0, 0, 0);
            }
            Due.is("clear()", x.clear(), count);
            Due.is("clear() again", x.clear(), 0);
        }
    }

    // Promise 7

    private static void whetherItIsNew() {
        Due.says("It is told that a value of a kind (2 street, 6 code) and a place's value FIT: whether that is new.");
        AddressGrammar x = new AddressGrammar();
        int[] edges = {0, 1, 500, 998, 999};
        for (int kind = 2; kind <= 6; kind += 4) {
            for (int value : edges) {
                for (int other : edges) {
                    Due.is("fits(" + kind + ", " + value + ", " + other + ")", x.fits(kind, value, other), true);
                    Due.is("again", x.fits(kind, value, other), false);
                }
            }
        }
        x.clear();
        Due.form(x, "N;", 1);
        Due.is("again, behind clear() and read()", x.fits(2, 0, 0), false);
    }

    private static void anotherKind() {
        Due.says("False also: another kind");
        AddressGrammar x = new AddressGrammar();
        for (int kind = -3; kind < 40; kind++) {
            Due.is("fits of kind " + kind, x.fits(kind, 0, 0), kind == 2 || kind == 6);
        }
        int[] no = {LEAST, GREATEST, LEAST + 2, LEAST + 6, 256 + 2, 65536 + 6};
        for (int kind : no) {
            Due.is("fits of kind " + kind, x.fits(kind, 1, 1), false);
        }
    }

    private static void noValues() {
        Due.says("values that are not 0 .. 999");
        AddressGrammar x = new AddressGrammar();
        int[] no = {-1, 1000, 1001, -999, 4999, LEAST, GREATEST};
        for (int value : no) {
            for (int kind = 2; kind <= 6; kind += 4) {
                Due.is("fits(" + kind + ", " + value + ", 0)", x.fits(kind, value, 0), false);
                Due.is("fits(" + kind + ", 999, " + value + ")", x.fits(kind, 999, value), false);
                Due.is("fits(" + kind + ", " + value + ", " + value + ")", x.fits(kind, value, value), false);
            }
        }
        for (int i = 0; i < 60; i++) {
            Due.is("60 have room still", x.fits(2, 999 - i, 999), true);
        }
    }

    private static void thereAreSixty() {
        Due.says("or there are 60");
        for (int way = 0; way < 3; way++) {
            AddressGrammar x = Due.with("SC;P;");
            for (int i = 0; i < 60; i++) {
                Due.is("fits " + i, x.fits(kindBy(way, i), i, 999), true);
                Due.is("again", x.fits(kindBy(way, i), i, 999), false);
            }
            Due.is("a street more", x.fits(2, 60, 999), false);
            Due.is("a code more", x.fits(6, 60, 999), false);
            Due.is("the first again", x.fits(kindBy(way, 0), 0, 999), false);
            x.word(0, 2, 58, 0);
            x.word(0, 6, 1059, 0);
            x.word(1, 7, 999, 0);
            Due.is("the last two were told", x.sum(0), way == 2 ? 0 : 100);
            x.clear();
            Due.is("behind clear()", x.fits(2, 60, 999), false);
            x.word(0, 2, 60, 0);
            x.word(0, 6, 1060, 0);
            x.word(1, 7, 999, 0);
            Due.is("the 61st was not told", x.sum(0), 200);
        }
    }

    /** Streets alone, codes alone, or streets at even numbers. */
    private static int kindBy(int way, int i) {
        return way == 0 || (way == 2 && i % 2 == 0) ? 2 : 6;
    }

    // Promises 8 to 10

    private static void derivesParts() {
        Due.says("How many parts there are in the reading of a rank");
        AddressGrammar x = Due.with("NFSHX;BCPL;");
        for (int i = 0; i < 9; i++) {
            x.word(i / 5, i, i % 5 * 1000, 0);
        }
        Due.is("nine", x.derive(0), 9);
        Due.form(x, "N?1F?1S?1H?1X?1B?1C?1P?1L?1;", 1);
        x.clear();
        Due.is("none is there", x.derive(0), 0);
        Due.is("and it is the only reading", x.derive(1), NONE);
        x.word(0, 0, 0, 0);
        x.word(0, 8, 0, 0);
        Due.is("one is there: rank 0", x.derive(0), 1);
        Due.is("one is there: rank 1", x.derive(1), 1);
    }

    private static void derivesNothing() {
        Due.says("NONE without one");
        AddressGrammar x = new AddressGrammar();
        for (int rank = 0; rank < 2; rank++) {
            Due.is("without a form", x.derive(rank), NONE);
            Due.is("without a reading", Due.with("N;").derive(rank), NONE);
        }
        Due.is("without a second one", Due.with("N?0;").derive(1), NONE);
        Due.is("with a first one", Due.with("N?0;").derive(0), 0);
        x.word(0, 0, 0, 0);
        Due.form(x, "F?0;", 1);
        Due.is("with a line that no row takes", x.derive(0), NONE);
        AddressGrammar y = Due.with("N?0;");
        y.word(0, 0, 0, 0);
        y.word(0, 0, 0, 0);
        Due.is("with a second one", y.derive(1), 1);
        y.word(1, 0, 0, 0);
        Due.is("the first one is gone", y.derive(0), NONE);
        Due.is("the second one is gone", y.derive(1), NONE);
        Due.is("its sum, too", y.sum(1), NONE);
        y.clear();
        Due.is("one without parts", y.derive(0), 0);
        Due.is("and no second one", y.derive(1), NONE);
    }

    private static AddressGrammar sixLines() {
        AddressGrammar x = Due.with("N?1;F;S;H;X;B;CPL;");
        int[] kinds = {1, 2, 3, 4, 5};
        for (int line = 0; line < 5; line++) {
            x.word(line, 0, 3, 0);
            x.word(line, kinds[line], 990 + line, 0);
        }
        for (int place = 0; place < 3; place++) {
            for (int number = 0; number < 4; number++) {
                x.word(5, 6 + place, place * 1000 + number, number == 3 ? 0 : 500 + number);
            }
        }
        return x;
    }

    private static void factsOfParts() {
        Due.says("Of the i-th part (0 the first) that is there in a reading: 0 its kind, 1 its line, 2 its place, "
            + "3 its value, 4 the alternative.");
        AddressGrammar x = sixLines();
        int[][] due = {{1, 0, 0, 990, 1}, {2, 1, 0, 991, 1}, {3, 2, 0, 992, 1}, {4, 3, 0, 993, 1}, {5, 4, 0, 994, 1},
            {6, 5, 0, 3, 3}, {7, 5, 1, 3, 3}, {8, 5, 2, 3, 3}};
        Due.is("derive(0)", x.derive(0), 8);
        for (int i = 0; i < 8; i++) {
            for (int what = 0; what < 5; what++) {
                Due.is("part(0, " + i + ", " + what + ")", x.part(0, i, what), due[i][what]);
                // Three readings are second by their sums; of them, C takes the least alternative in this one.
                int second = i == 5 && what >= 3 ? 0 : due[i][what];
                Due.is("part(1, " + i + ", " + what + ")", x.part(1, i, what), second);
            }
        }
        Due.is("sum(0)", x.sum(0), 201);
        Due.is("sum(1)", x.sum(1), 701);
    }

    private static void noSuchPart() {
        Due.says("NONE: there is none such.");
        AddressGrammar x = sixLines();
        // Times five, the last four wrap around to -1, 4, 3 and 1.
        int[] no = {8, 9, -1, -2, LEAST, GREATEST, 858993459, 858993460, 1717986919, -858993459};
        for (int i : no) {
            for (int what = 0; what < 5; what++) {
                Due.is("part(0, " + i + ", " + what + ")", x.part(0, i, what), NONE);
                Due.is("part(1, " + i + ", " + what + ")", x.part(1, i, what), NONE);
            }
        }
        AddressGrammar y = Due.with("N?1;");
        Due.is("of a reading without parts", y.part(0, 0, 0), NONE);
        y.word(0, 0, 5, 0);
        Due.is("of one part", y.part(0, 0, 3), 5);
        Due.is("a second part", y.part(0, 1, 3), NONE);
        Due.is("without a second reading", y.part(1, 0, 3), NONE);
        Due.is("without a form", new AddressGrammar().part(0, 0, 4), NONE);
        x.word(5, 0, 4000, 0);
        x.clear();
        Due.is("of a reading that is gone", x.part(0, 0, 0), NONE);
    }

    private static void partsOutside() {
        Due.says("part: OUTSIDE (rank, what)");
        AddressGrammar x = sixLines();
        int[] whats = {-1, 5, 6, -5, LEAST, GREATEST};
        for (int what : whats) {
            Due.is("what " + what, x.part(0, 0, what), OUTSIDE);
            Due.is("what " + what + " of rank 1", x.part(1, 0, what), OUTSIDE);
            Due.is("what " + what + " of no part", x.part(0, 8, what), OUTSIDE);
            Due.is("what " + what + " of part -1", x.part(0, -1, what), OUTSIDE);
            Due.is("what " + what + " of no reading", new AddressGrammar().part(0, 0, what), OUTSIDE);
        }
        for (int rank : NO_RANKS) {
            Due.is("rank " + rank, x.part(rank, 0, 0), OUTSIDE);
            Due.is("rank " + rank + " of no part", x.part(rank, 8, 4), OUTSIDE);
            Due.is("rank " + rank + " of no reading", new AddressGrammar().part(rank, 0, 0), OUTSIDE);
        }
    }

    private static void sums() {
        Due.says("THE SUM of a reading; NONE.");
        AddressGrammar x = Due.with("N?0;");
        Due.is("0 is a sum", x.sum(0), 0);
        Due.is("without a second one", x.sum(1), NONE);
        x.word(0, 1, 0, 0);
        Due.is("without a reading", x.sum(0), NONE);
        Due.is("without a form", new AddressGrammar().sum(0), NONE);
        Due.is("without a form: rank 1", new AddressGrammar().sum(1), NONE);
    }

    // Promise 11

    private static void furthestWithoutAForm() {
        Due.says("furthest: NONE without a form");
        AddressGrammar x = full();
        Due.is("with lines", x.furthest(), NONE);
        Due.fault(x, "N", 1);
        Due.is("behind a fault", x.furthest(), NONE);
        Due.form(x, "N;", 1);
        Due.is("with a form", x.furthest(), 0);
        x.clear();
        Due.is("with a form and no line", x.furthest(), 0);
    }

    private static void furthestWithLines() {
        Due.says("How many lines, from the first one on, some beginning of a reading takes at most");
        AddressGrammar x = Due.with("N;F;S;H;X;B;C;");
        for (int line = 0; line < 6; line++) {
            x.word(line, 8, 0, 0);
            Due.is("a line that no row takes", x.furthest(), line);
            x.word(line, line, 0, 0);
            Due.is("all lines, and rows left", x.furthest(), line + 1);
            Due.is("without a reading", x.derive(0), NONE);
        }
        Due.form(x, "N;F;", 2);
        Due.is("all rows, and lines left", x.furthest(), 2);
        Due.form(x, "F;S;", 2);
        Due.is("not from a later line on", x.furthest(), 0);
        Due.form(x, "L?1;N?1;F;S?1;H;X;B;", 7);
        Due.is("of several beginnings the one with most", x.furthest(), 6);
        Due.form(x, "P?1;C?1;", 2);
        Due.is("all are missing", x.furthest(), 0);
        Due.form(x, "P;N;F;", 3);
        Due.is("the first row can't be", x.furthest(), 0);
        Due.form(x, "N;P;F;", 3);
        Due.is("the second row can't be", x.furthest(), 1);
    }

    private static void furthestBeginnings() {
        Due.says("(whole rows from the first on)");
        AddressGrammar x = Due.with("NF;S;");
        x.word(0, 0, 0, 0);
        Due.is("half a row", x.furthest(), 0);
        x.word(0, 1, 1000, 0);
        Due.is("a whole row", x.furthest(), 1);
        x.word(0, 2, 2000, 0);
        Due.is("a row that leaves a place", x.furthest(), 0);
        Due.form(x, "NF;S;", 2);
        x.clear();
        x.word(0, 0, 0, 0);
        x.word(1, 1, 0, 0);
        Due.is("a row over two lines", x.furthest(), 0);
        Due.form(x, "NB?1;F?1S?1;", 2);
        Due.is("parts that are missing", x.furthest(), 2);
    }

    // Promises 12 and 13

    private static void printedParts() {
        Due.says("A reading is PRINTED: the letter of each part that is there");
        AddressGrammar x = sixLines();
        Due.prints(x, 0, "F990;S991;H992;X993;B994;C3P3L3;");
        Due.prints(x, 1, "F990;S991;H992;X993;B994;C0P3L3;");
        x.clear();
        Due.form(x, "LPC?1BX;HS?1FN?1;", 2);
        int[][] kinds = {{8, 7, 6, 5, 4}, {3, 1, 0}};
        for (int line = 0; line < 2; line++) {
            for (int place = 0; place < kinds[line].length; place++) {
                x.word(line, kinds[line][place], place * 1000 + 7, 0);
            }
        }
        Due.prints(x, 0, "L7P7C7B7X7;H7F7N7;");
    }

    private static void printedDigits() {
        Due.says("and its value in digits (without zeros before)");
        for (int value = 0; value < 1000; value++) {
            AddressGrammar x = Due.with("H;");
            x.word(0, 3, value, 0);
            Due.prints(x, 0, "H" + value + ";");
        }
    }

    private static void printedRows() {
        Due.says("a ; behind each row that takes a line: how many characters");
        AddressGrammar x = Due.with("N?0;F;S?0;H;X?0;");
        x.word(0, 1, 100, 0);
        x.word(1, 3, 999, 0);
        Due.prints(x, 0, "F100;H999;");
        Due.form(x, "NF;SH;XB;C;P;L;", 6);
        x.clear();
        int[] lines = {0, 0, 1, 1, 2, 2, 3, 4, 5};
        int[] places = {0, 1, 0, 1, 0, 1, 0, 0, 0};
        for (int kind = 0; kind < 9; kind++) {
            x.word(lines[kind], kind, places[kind] * 1000 + 999, 0);
        }
        Due.prints(x, 0, "N999F999;S999H999;X999B999;C999;P999;L999;");
        Due.is("the most that can be printed", x.print(0), 42);
    }

    private static void printedNothing() {
        Due.says("(0 without a reading: nothing is printed then, what was is gone)");
        AddressGrammar x = Due.with("N?1;");
        x.word(0, 0, 17, 1);
        Due.prints(x, 0, "N17;");
        Due.is("rank 1", x.print(1), 0);
        Due.is("what was is gone", x.at(0), NONE);
        Due.prints(x, 0, "N17;");
        x.word(1, 0, 17, 1);
        Due.is("rank 0", x.print(0), 0);
        Due.is("what was is gone, too", x.at(0), NONE);
        x.clear();
        x.word(0, 0, 17, 1);
        Due.prints(x, 0, "N17;");
        x.clear();
        Due.is("a reading without parts", x.print(0), 0);
        Due.is("prints nothing", x.at(0), NONE);
        Due.is("without a form", new AddressGrammar().print(0), 0);
    }

    private static void ranksOutside() {
        Due.says("derive, sum, print: OUTSIDE (rank 0 .. 1)");
        AddressGrammar x = sixLines();
        for (int rank : NO_RANKS) {
            Due.is("derive(" + rank + ")", x.derive(rank), OUTSIDE);
            Due.is("sum(" + rank + ")", x.sum(rank), OUTSIDE);
            Due.is("print(" + rank + ")", x.print(rank), OUTSIDE);
            AddressGrammar y = new AddressGrammar();
            Due.is("without a form: derive(" + rank + ")", y.derive(rank), OUTSIDE);
            Due.is("without a form: sum(" + rank + ")", y.sum(rank), OUTSIDE);
            Due.is("without a form: print(" + rank + ")", y.print(rank), OUTSIDE);
        }
        Due.is("nothing was printed", x.at(0), NONE);
        x.print(0);
        x.print(2);
        Due.is("what was printed stays", x.at(0), 'F');
    }

    private static void charactersPrinted() {
        Due.says("Character i (0 the first) of what was printed; NONE.");
        AddressGrammar x = Due.with("N;");
        Due.is("nothing was printed", x.at(0), NONE);
        x.word(0, 0, 17, 0);
        Due.is("a reading that was not printed", x.at(0), NONE);
        x.print(0);
        int[] due = {'N', '1', '7', ';'};
        for (int i = 0; i < 4; i++) {
            Due.is("at(" + i + ")", x.at(i), due[i]);
        }
        int[] no = {-1, 4, 5, 41, 42, 43, 1000, LEAST, GREATEST, LEAST + 1, 1 << 16, 1 << 30};
        for (int i : no) {
            Due.is("at(" + i + ")", x.at(i), NONE);
        }
        x.clear();
        x.word(0, 0, 5, 0);
        Due.is("what was printed stays", Due.printed(x), "N17;");
        Due.prints(x, 0, "N5;");
        Due.is("nothing of what was longer", x.at(3), NONE);
        Due.form(x, "F;", 1);
        Due.is("behind another form", Due.printed(x), "N5;");
    }

    private static void theLastOf512Calls() {
        Due.says("An object is used for at most 512 calls after it has been made");
        AddressGrammar x = new AddressGrammar();
        Plain y = new Plain();
        String text = "S?3C?2P?1;H;";
        for (char c : text.toCharArray()) {
            Due.is("sign", x.sign(c), y.sign(c));
        }
        Due.is("read", Due.read(x), y.read());
        // The signs and the read are made, and the last call stands behind the loop.
        for (int call = text.length() + 1; call < 511; call++) {
            int number = call * 7 % 60;
            int turn = call % 8;
            if (turn == 0) {
                Due.is("clear", x.clear(), y.clear());
            } else if (turn == 1) {
                Due.is("word", x.word(0, 2, number, 5), y.word(0, 2, number, 5));
            } else if (turn == 2) {
                Due.is("word", x.word(0, 6, 1000 + number, 5), y.word(0, 6, 1000 + number, 5));
            } else if (turn == 3) {
                Due.is("word", x.word(0, 7, 2000 + number, 5), y.word(0, 7, 2000 + number, 5));
            } else if (turn == 4) {
                Due.is("word", x.word(1, 3, number, 5), y.word(1, 3, number, 5));
            } else if (turn == 5) {
                Due.is("fits", x.fits(2, number, number), y.fits(2, number, number));
            } else if (turn == 6) {
                Due.is("sum", x.sum(0), y.sum(0));
            } else {
                Due.is("print", x.print(0), y.print(0));
            }
        }
        Due.is("the 512th", x.at(2), y.at(2));
    }
}
