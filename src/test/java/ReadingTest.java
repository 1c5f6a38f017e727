/** Promises 8 to 11: derive, part, sum, furthest. */
public final class ReadingTest {
    private static final int NONE = AddressGrammar.NONE, OUTSIDE = AddressGrammar.OUTSIDE;

    public static void main(String[] args) {
        outside();
        rowsAndLines();
        aLineIsTakenWhole();
        partsKeepTheirOrder();
        factsOfParts();
        tiesByTheLesserAlternative();
        tiesWithTheMissingBehind();
        tiesByTheFirstPart();
        equalAlternativesAreTwoReadings();
        misfits();
        misfitsChooseTheReading();
        misfitsWithThePlaceInFront();
        greatestSum();
        manyReadings();
        furthest();
        Due.end("ReadingTest");
    }

    private static void outside() {
        AddressGrammar x = Due.with("N?1;");
        int[] no = {-1, 2, Integer.MIN_VALUE, Integer.MAX_VALUE};
        for (int rank : no) {
            Due.is("derive(" + rank + ")", x.derive(rank), OUTSIDE);
            Due.is("sum(" + rank + ")", x.sum(rank), OUTSIDE);
            Due.is("part(" + rank + ", 0, 0)", x.part(rank, 0, 0), OUTSIDE);
            Due.is("new part(" + rank + ", 0, 0)", new AddressGrammar().part(rank, 0, 0), OUTSIDE);
        }
        x.word(0, 0, 5, 0);
        int[] whats = {-1, 5, Integer.MIN_VALUE, Integer.MAX_VALUE};
        for (int what : whats) {
            Due.is("part(0, 0, " + what + ")", x.part(0, 0, what), OUTSIDE);
            Due.is("part(0, 9, " + what + ")", x.part(0, 9, what), OUTSIDE);
            Due.is("part(1, 0, " + what + ")", x.part(1, 0, what), OUTSIDE);
        }
        int[] places = {-1, 1, 9, Integer.MIN_VALUE, Integer.MAX_VALUE};
        for (int i : places) {
            Due.is("part(0, " + i + ", 0)", x.part(0, i, 0), NONE);
        }
        Due.is("part of no reading", x.part(1, 0, 0), NONE);
        Due.is("sum of no reading", x.sum(1), NONE);
        Due.is("derive of no reading", x.derive(1), NONE);
    }

    private static void rowsAndLines() {
        AddressGrammar x = Due.with("N;F?9;S;");
        x.word(0, 0, 1, 0);
        Due.is("a row without a line", x.derive(0), NONE);
        x.word(1, 2, 1, 3);
        Due.is("the row between is missing", x.derive(0), 2);
        Due.is("its sum", x.sum(0), 12);
        Due.is("the line of S", x.part(0, 1, 1), 1);
        x.word(2, 2, 1, 4);
        Due.is("three lines", x.derive(0), NONE);
        x.word(1, 1, 8, 1);
        Due.is("three rows", x.derive(0), 3);
        Due.is("their sum", x.sum(0), 5);
        x.word(3, 2, 1, 0);
        Due.is("a line too many", x.derive(0), NONE);
    }

    private static void aLineIsTakenWhole() {
        AddressGrammar x = Due.with("NF?1;S?1;");
        x.word(0, 0, 1, 0);
        x.word(0, 2, 1001, 0);
        Due.is("a row does not go over two lines, nor a line over two rows", x.derive(0), NONE);
        x.word(0, 1, 1001, 0);
        Due.is("a row with all places", x.derive(0), 2);
        AddressGrammar y = Due.with("NF;");
        y.word(0, 0, 1, 0);
        y.word(1, 1, 1, 0);
        Due.is("a row in two lines", y.derive(0), NONE);
    }

    private static void partsKeepTheirOrder() {
        AddressGrammar x = Due.with("FN;");
        x.word(0, 0, 1, 0);
        x.word(0, 1, 1001, 0);
        Due.is("N before F", x.derive(0), NONE);
        Due.form(x, "NF;", 1);
        Due.is("as the form says", x.derive(0), 2);
    }

    private static void factsOfParts() {
        AddressGrammar x = Due.with("L?2;NH?4C;P;");
        x.word(0, 0, 11, 1);
        x.word(0, 3, 1500, 1);
        x.word(0, 6, 1600, 1);
        x.word(0, 6, 1601, 0);
        x.word(1, 8, 1, 0);
        x.word(1, 7, 999, 0);
        int[][] due = {{0, 0, 0, 11, 0}, {6, 0, 1, 601, 2}, {7, 1, 0, 999, 1}};
        Due.is("derive", x.derive(0), 3);
        for (int i = 0; i < due.length; i++) {
            for (int what = 0; what < 5; what++) {
                Due.is("part(0, " + i + ", " + what + ")", x.part(0, i, what), due[i][what]);
            }
        }
        Due.is("sum(0)", x.sum(0), 2 + 1 + 4 + 0 + 0 + 100);
        Due.is("sum(1)", x.sum(1), 2 + 1 + 4 + 1 + 0 + 100);
        Due.is("part(1, 1, 3)", x.part(1, 1, 3), 600);
        Due.is("part(1, 1, 4)", x.part(1, 1, 4), 1);
        Due.is("part(0, 3, 0)", x.part(0, 3, 0), NONE);
    }

    private static void tiesByTheLesserAlternative() {
        AddressGrammar x = Due.with("N;");
        x.word(0, 0, 9, 3);
        x.word(0, 0, 8, 3);
        x.word(0, 0, 7, 3);
        Due.is("rank 0", x.part(0, 0, 4), 0);
        Due.is("rank 1", x.part(1, 0, 4), 1);
        x.word(0, 0, 6, 2);
        Due.is("rank 0 by its sum", x.part(0, 0, 4), 3);
        Due.is("rank 1 then", x.part(1, 0, 4), 0);
    }

    private static void tiesWithTheMissingBehind() {
        AddressGrammar x = Due.with("F?1;N?1;");
        x.word(0, 0, 5, 1);
        x.word(0, 1, 6, 1);
        Due.is("rank 0 has F", x.part(0, 0, 0), 1);
        Due.is("rank 1 has N", x.part(1, 0, 0), 0);
        Due.is("with the same sum", x.sum(0) * 100 + x.sum(1), 202);
    }

    private static void tiesByTheFirstPart() {
        AddressGrammar x = Due.with("N;F;");
        x.word(0, 0, 1, 0);
        x.word(0, 0, 2, 1);
        x.word(1, 1, 3, 1);
        x.word(1, 1, 4, 0);
        x.word(1, 1, 5, 1);
        Due.is("rank 0", x.sum(0) + 10 * x.part(0, 0, 3) + 100 * x.part(0, 1, 3), 410);
        Due.is("rank 1: the first alternative of N", x.sum(1) + 10 * x.part(1, 0, 3) + 100 * x.part(1, 1, 3), 311);
        AddressGrammar y = Due.with("P;S;");
        y.fits(2, 1, 9);
        y.word(0, 7, 8, 100);
        y.word(0, 7, 9, 0);
        y.word(0, 7, 9, 0);
        y.word(1, 2, 2, 0);
        y.word(1, 2, 1, 100);
        // 8 and 2: 200; 9 and 2: 100; 9 and 1: 100, each of the last two twice.
        Due.is("rank 0: alternatives", y.part(0, 0, 4) * 10 + y.part(0, 1, 4), 10);
        Due.is("rank 1: alternatives", y.part(1, 0, 4) * 10 + y.part(1, 1, 4), 11);
    }

    private static void equalAlternativesAreTwoReadings() {
        AddressGrammar x = Due.with("N;");
        x.word(0, 0, 5, 3);
        Due.is("one reading", x.derive(1), NONE);
        x.word(0, 0, 5, 3);
        Due.is("two readings", x.derive(1), 1);
        Due.is("of the same sum", x.sum(1), 3);
        Due.is("the second alternative", x.part(1, 0, 4), 1);
    }

    private static void misfits() {
        AddressGrammar x = Due.with("S?1;C?1;P?1;");
        Due.is("all are missing", x.sum(0), 3);
        x.word(0, 2, 5, 0);
        Due.is("the street alone", x.sum(0), 2);
        x.word(1, 6, 6, 0);
        Due.is("without a place", x.sum(0), 1);
        x.word(2, 7, 7, 0);
        Due.is("neither fits", x.sum(0), 200);
        x.fits(6, 6, 5);
        x.fits(2, 6, 7);
        x.fits(6, 5, 7);
        Due.is("what was told is of others", x.sum(0), 200);
        x.fits(2, 5, 7);
        Due.is("the street fits", x.sum(0), 100);
        x.fits(6, 6, 7);
        Due.is("both fit", x.sum(0), 0);
        AddressGrammar y = Due.with("C;P;");
        y.word(0, 6, 1, 0);
        y.word(1, 7, 2, 0);
        Due.is("the code alone", y.sum(0), 100);
        AddressGrammar z = Due.with("N;P;H;");
        z.word(0, 0, 1, 0);
        z.word(1, 7, 2, 0);
        z.word(2, 3, 2, 0);
        Due.is("neither a street nor a code", z.sum(0), 0);
    }

    private static void misfitsChooseTheReading() {
        AddressGrammar x = Due.with("S;C;P;");
        x.word(0, 2, 1, 0);
        x.word(0, 2, 2, 50);
        x.word(1, 6, 1, 0);
        x.word(1, 6, 2, 49);
        x.word(2, 7, 1, 0);
        x.word(2, 7, 2, 1);
        Due.is("nothing fits", x.sum(0), 200);
        Due.is("nothing fits: the second one", x.sum(1), 201);
        x.fits(2, 2, 2);
        Due.is("a dearer street", x.sum(0), 151);
        Due.is("its place", x.part(0, 2, 3), 2);
        Due.is("the second one", x.sum(1), 200);
        Due.is("the same, but for its place's alternative", x.part(1, 2, 3), 1);
        x.fits(6, 2, 2);
        Due.is("both dearer", x.sum(0), 100);
        Due.is("both dearer: the second one", x.sum(1), 150);
        x.fits(6, 1, 1);
        Due.is("as cheap, but before it", x.sum(0), 100);
        Due.is("its street", x.part(0, 0, 3), 1);
        Due.is("the other one", x.part(1, 0, 3), 2);
        Due.is("its sum", x.sum(1), 100);
    }

    private static void misfitsWithThePlaceInFront() {
        AddressGrammar x = Due.with("P?150;SC;");
        x.word(0, 2, 1, 0);
        x.word(0, 6, 1002, 0);
        Due.is("the place is missing", x.sum(0), 150);
        x.clear();
        x.word(0, 7, 3, 0);
        x.word(1, 2, 1, 0);
        x.word(1, 6, 1002, 0);
        Due.is("the place is there", x.sum(0), 200);
        x.fits(6, 2, 3);
        Due.is("and fits the code", x.sum(0), 100);
    }

    private static void greatestSum() {
        AddressGrammar x = Due.with("NFSHX;BCPL;");
        int[] kinds = {0, 1, 2, 3, 4, 5, 6, 7, 8};
        for (int i = 0; i < 9; i++) {
            x.word(i / 5, kinds[i], i % 5 * 1000 + 999, 1000);
        }
        Due.is("nine parts", x.derive(0), 9);
        Due.is("of the greatest cost", x.sum(0), 9200);
        Due.is("the only one", x.sum(1), NONE);
        AddressGrammar y = Due.with("N?999F?999S?999H?999X?999B?999C?999P?999L?999;");
        Due.is("nine are missing", y.sum(0), 8991);
        Due.is("no part is there", y.derive(0), 0);
        Due.is("no part to ask for", y.part(0, 0, 0), NONE);
    }

    private static void manyReadings() {
        AddressGrammar x = Due.with("S?9NFHX;BCLP?9;");
        int[][] rows = {{2, 0, 1, 3, 4}, {5, 6, 8, 7}};
        for (int line = 0; line < 2; line++) {
            for (int place = 0; place < rows[line].length; place++) {
                for (int number = 0; number < 4; number++) {
                    x.word(line, rows[line][place], place * 1000 + number, 3 - number);
                }
            }
        }
        Due.is("the least of 4 to the 9", x.sum(0), 200);
        Due.is("the second of them", x.sum(1), 201);
        Due.is("it differs in the first part", x.part(1, 0, 4), 2);
        Due.is("and not in the last one", x.part(1, 8, 4), 3);
        x.fits(2, 0, 1);
        x.fits(6, 2, 1);
        Due.is("sum with what fits", x.sum(0), 3 + 1 + 2);
        Due.is("sum of the second one with it", x.sum(1), 7);
        Due.is("both L", x.part(1, 7, 4) * 10 + x.part(0, 7, 4), 33);
        Due.is("its S stays", x.part(1, 0, 4), 0);
        Due.is("its N", x.part(1, 1, 4), 2);
    }

    private static void furthest() {
        AddressGrammar x = new AddressGrammar();
        x.word(0, 0, 1, 0);
        Due.is("without a form", x.furthest(), NONE);
        Due.form(x, "N;F;", 2);
        Due.is("the first line", x.furthest(), 1);
        x.word(1, 0, 1, 0);
        Due.is("not the second one", x.furthest(), 1);
        x.word(1, 1, 1, 0);
        Due.is("the second one", x.furthest(), 2);
        x.word(2, 0, 1, 0);
        Due.is("more lines than rows", x.furthest(), 2);
        x.word(0, 0, 1001, 0);
        Due.is("the first line is too long", x.furthest(), 0);
        x.clear();
        Due.is("no lines", x.furthest(), 0);
        Due.form(x, "N?0;F?0;S?0H;", 3);
        x.word(0, 1, 0, 0);
        x.word(1, 2, 0, 0);
        x.word(1, 3, 1000, 0);
        Due.is("a first row that is missing", x.furthest(), 2);
        x.word(1, 5, 2000, 0);
        Due.is("a part of a line is no line", x.furthest(), 1);
        Due.form(x, "B;N?0;F?0;", 3);
        Due.is("a first row that can't be missing", x.furthest(), 0);
        AddressGrammar y = Due.with("N;F;S;H;X;B;");
        for (int line = 0; line < 6; line++) {
            y.word(line, line, 0, 0);
            Due.is("as many lines as there are", y.furthest(), line + 1);
        }
    }
}
