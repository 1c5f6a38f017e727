/** "Terms": each sentence that names a boundary case has a test of its own here, below its words. */
public final class TermsTest {
    private static final int NONE = AddressGrammar.NONE, OUTSIDE = AddressGrammar.OUTSIDE;
    private static final int STATE = AddressGrammar.STATE, ROOM = AddressGrammar.ROOM;
    private static final String LETTERS = "NFSHXBCPL";

    public static void main(String[] args) {
        kindsHaveLetters();
        oneRowOrMore();
        eachRowHasItsSign();
        onePartOrMore();
        oneToThreeDigits();
        zerosInFront();
        noLetterTwice();
        nothingElse();
        sixtyCharacters();
        theFirstFault();
        theEndAsAFault();
        allShortTexts();
        sixLines();
        fivePlaces();
        fourAlternatives();
        kindsAndValuesOfAlternatives();
        takesOrIsMissing();
        allPlacesOfOneLine();
        aRowWithoutALine();
        allLinesInOrder();
        costsOfBoth();
        hundredForTheCode();
        hundredForTheStreet();
        theLesserSum();
        theLesserAlternative();
        theMissingBehindAll();
        theFirstPartThatDiffers();
        twoRanks();
        theSecondDiffersAnywhere();
        theFirstRefusal();
        Due.end("TermsTest");
    }

    private static void kindsHaveLetters() {
        Due.says("PARTS have KINDS 0 .. 8 with the LETTERS N F S H X B C P L");
        for (int letter = 0; letter < 9; letter++) {
            AddressGrammar x = Due.with(LETTERS.charAt(letter) + ";");
            for (int kind = 0; kind < 9; kind++) {
                x.clear();
                x.word(0, kind, 12, 0);
                Due.is(LETTERS.charAt(letter) + " takes kind " + kind, x.derive(0), kind == letter ? 1 : NONE);
            }
            x.clear();
            x.word(0, letter, 12, 0);
            Due.is("its kind", x.part(0, 0, 0), letter);
            Due.prints(x, 0, LETTERS.charAt(letter) + "12;");
        }
    }

    private static void oneRowOrMore() {
        Due.says("A FORM is one or more ROWS");
        AddressGrammar x = new AddressGrammar();
        Due.fault(x, "", 0);
        StringBuilder text = new StringBuilder();
        for (int rows = 1; rows <= 9; rows++) {
            text.append(LETTERS.charAt(rows - 1)).append(';');
            Due.form(x, text.toString(), rows);
        }
        Due.fault(x, text + "N;", 18);
    }

    private static void eachRowHasItsSign() {
        Due.says("each with a ; behind it");
        AddressGrammar x = new AddressGrammar();
        Due.fault(x, "N", 1);
        Due.form(x, "N;", 1);
        Due.fault(x, "N;F", 3);
        Due.form(x, "N;F;", 2);
        Due.fault(x, "NFSHXBCPL", 9);
        Due.form(x, "NFSHXBCPL;", 1);
        Due.fault(x, "N?7", 3);
        Due.form(x, "N?7;", 1);
    }

    private static void onePartOrMore() {
        Due.says("a row is one or more parts");
        AddressGrammar x = new AddressGrammar();
        Due.fault(x, ";", 0);
        Due.fault(x, ";N;", 0);
        Due.fault(x, "N;;", 2);
        Due.fault(x, "N;;F;", 2);
        Due.fault(x, "N?1;;", 4);
        Due.fault(x, "NFSHXBCPL;;", 10);
        Due.form(x, "N;", 1);
        Due.form(x, "LPCBXHSFN;", 1);
    }

    private static void oneToThreeDigits() {
        Due.says("a ? and what that costs: a number of one to three digits");
        AddressGrammar x = new AddressGrammar();
        Due.fault(x, "N?;", 2);
        Due.fault(x, "N?F;", 2);
        Due.fault(x, "N?", 2);
        Due.fault(x, "N??1;", 2);
        Due.fault(x, "N1;", 1);
        Due.fault(x, "?1;", 0);
        Due.fault(x, "N;?1;", 2);
        Due.fault(x, "N?1?1;", 3);
        Due.fault(x, "N?1234;", 5);
        Due.fault(x, "N?999F?9999;", 10);
        for (int digit = 0; digit <= 9; digit++) {
            missing("N?" + digit + ";", digit);
            missing("N?" + digit + "9;", digit * 10 + 9);
            missing("N?9" + digit + ";", 90 + digit);
            missing("N?" + digit + digit + digit + ";", digit * 111);
        }
    }

    private static void zerosInFront() {
        Due.says("(0s in front, too)");
        AddressGrammar x = new AddressGrammar();
        Due.fault(x, "N?0000;", 5);
        Due.fault(x, "N?0001;", 5);
        missing("N?0;", 0);
        missing("N?00;", 0);
        missing("N?000;", 0);
        missing("N?01;", 1);
        missing("N?001;", 1);
        missing("N?010;", 10);
        missing("N?099;", 99);
    }

    private static void missing(String text, int cost) {
        Due.is("what is missing in " + text, Due.with(text).sum(0), cost);
    }

    private static void noLetterTwice() {
        Due.says("No letter stands twice in a form");
        for (char letter : LETTERS.toCharArray()) {
            char other = letter == 'X' ? 'H' : 'X';
            AddressGrammar x = new AddressGrammar();
            Due.fault(x, "" + letter + letter + ";", 1);
            Due.fault(x, "" + letter + other + letter + ";", 2);
            Due.fault(x, letter + ";" + letter + ";", 2);
            Due.fault(x, letter + ";" + other + ";" + letter + ";", 4);
            Due.fault(x, letter + "?1" + letter + "?2;", 3);
            Due.form(x, letter + ";", 1);
            Due.form(x, letter + ";", 1);
            Due.fault(x, "" + letter + letter + ";", 1);
        }
    }

    private static void nothingElse() {
        Due.says("and nothing else in it");
        for (char c = 32; c <= 126; c++) {
            AddressGrammar x = new AddressGrammar();
            boolean isDigit = c >= '0' && c <= '9';
            boolean isLetter = LETTERS.indexOf(c) >= 0;
            boolean isOtherLetter = isLetter && c != 'N';
            signAndRead(x, c + "", isLetter ? 1 : 0);
            signAndRead(x, "N" + c, isOtherLetter || c == '?' || c == ';' ? 2 : 1);
            signAndRead(x, "N?" + c, isDigit ? 3 : 2);
            signAndRead(x, "N?1" + c, isDigit || isOtherLetter || c == ';' ? 4 : 3);
            signAndRead(x, "N?123" + c, isOtherLetter || c == ';' ? 6 : 5);
            signAndRead(x, "N;" + c, isOtherLetter ? 3 : 2);
            signAndRead(x, "NFSHXBCPL" + c, c == '?' || c == ';' ? 10 : 9);
            signAndRead(x, "NFSHXBCPL;" + c, 10);
        }
    }

    /** With a letter behind each form, so that every text has its fault. */
    private static void signAndRead(AddressGrammar x, String text, int fault) {
        boolean isForm = text.endsWith(";") && fault == text.length();
        Due.fault(x, isForm ? text + ";" : text, fault);
    }

    private static void sixtyCharacters() {
        Due.says("The TEXT has at most 60 characters.");
        AddressGrammar x = new AddressGrammar();
        String longest = "N?999;F?999;S?999;H?999;X?999;B?999;C?999;P?999;L?999;";
        Due.is("the longest form", longest.length(), 54);
        Due.form(x, longest, 9);
        Due.write(x, longest + "      ");
        Due.is("the 61st", x.sign('N'), false);
        Due.fault(x, "", 54);
        Due.write(x, "N?1F");
        for (int i = 4; i < 60; i++) {
            Due.is("sign " + i, x.sign('~'), true);
        }
        for (int i = 60; i < 70; i++) {
            Due.is("sign " + i, x.sign(';'), false);
        }
        Due.fault(x, "", 4);
        Due.is("sign to an empty text", x.sign('N'), true);
        Due.form(x, ";", 1);
    }

    private static void theFirstFault() {
        Due.says("FAULTS: the first character that can't be there (a letter that was there, too)");
        AddressGrammar x = new AddressGrammar();
        Due.fault(x, "N?1FN?F;;", 4);
        Due.fault(x, "N;F;?N;", 4);
        Due.fault(x, "NF NN", 2);
        Due.fault(x, "x", 0);
        Due.fault(x, "NFSHXBCPL;L", 10);
        Due.fault(x, "N?1;F?22;S?333;H?4444;", 20);
    }

    private static void theEndAsAFault() {
        Due.says("or the text's end");
        AddressGrammar x = new AddressGrammar();
        Due.fault(x, "", 0);
        Due.fault(x, "N", 1);
        Due.fault(x, "N?", 2);
        Due.fault(x, "N?1", 3);
        Due.fault(x, "N?12", 4);
        Due.fault(x, "N?123", 5);
        Due.fault(x, "N?123F", 6);
        Due.fault(x, "N;F", 3);
        Due.fault(x, "N?999;F?999;S?999;H?999;X?999;B?999;C?999;P?999;L?999", 53);
    }

    private static void allShortTexts() {
        Due.says("FAULTS, of all short texts of these signs");
        String signs = "NF?09;";
        int many = 1;
        for (int length = 0; length <= 6; length++) {
            for (int number = 0; number < many; number++) {
                StringBuilder text = new StringBuilder();
                for (int rest = number, i = 0; i < length; i++, rest /= signs.length()) {
                    text.append(signs.charAt(rest % signs.length()));
                }
                asPlain(text.toString());
            }
            many *= signs.length();
        }
    }

    private static void asPlain(String text) {
        AddressGrammar x = new AddressGrammar();
        Plain y = new Plain();
        Due.write(x, text);
        text.chars().forEach(y::sign);
        Due.is("read of " + text, Due.read(x), y.read());
        Due.is("wrong of " + text, x.wrong(), y.wrong());
        Due.is("sum of " + text, x.sum(0), y.sum(0));
    }

    private static void sixLines() {
        Due.says("LINES are 0, 1, .. (6 at most)");
        AddressGrammar x = new AddressGrammar();
        for (int line = 0; line < 6; line++) {
            Due.is("the line behind the next one", x.word(line + 1, 0, 0, 0), line == 5 ? OUTSIDE : STATE);
            Due.is("line " + line, x.word(line, 0, 0, 0), 0);
        }
        Due.is("a seventh", x.word(6, 0, 0, 0), OUTSIDE);
        Due.is("clear()", x.clear(), 6);
    }

    private static void fivePlaces() {
        Due.says("each with PLACES 0, 1, .. (5 at most)");
        AddressGrammar x = new AddressGrammar();
        for (int line = 0; line < 6; line++) {
            for (int place = 0; place < 5; place++) {
                int behind = place == 4 ? OUTSIDE : STATE;
                Due.is("the place behind the next one", x.word(line, 0, place * 1000 + 1000, 0), behind);
                Due.is("place " + place, x.word(line, 0, place * 1000, 0), 0);
            }
            Due.is("a sixth", x.word(line, 0, 5000, 0), OUTSIDE);
        }
    }

    private static void fourAlternatives() {
        Due.says("at a place there are ALTERNATIVES 0, 1, .. (4 at most)");
        AddressGrammar x = new AddressGrammar();
        for (int i = 0; i < 30; i++) {
            for (int number = 0; number < 4; number++) {
                Due.is("an alternative", x.word(i / 5, number, i % 5 * 1000, 0), number);
            }
            Due.is("a fifth", x.word(i / 5, 8, i % 5 * 1000, 0), ROOM);
        }
        Due.is("a fifth of the first place, still", x.word(0, 0, 0, 0), ROOM);
    }

    private static void kindsAndValuesOfAlternatives() {
        Due.says("each with a kind, a VALUE 0 .. 999 and a COST");
        AddressGrammar x = Due.with("N;");
        x.word(0, 0, 0, 0);
        x.word(0, 0, 999, 1000);
        Due.is("the least value", x.part(0, 0, 3), 0);
        Due.is("the least cost", x.sum(0), 0);
        Due.is("the greatest value", x.part(1, 0, 3), 999);
        Due.is("the greatest cost", x.sum(1), 1000);
    }

    private static void takesOrIsMissing() {
        Due.says("each one either takes an alternative of its kind at the next place, or is missing, if it may be");
        AddressGrammar x = Due.with("NF;");
        x.word(0, 0, 1, 0);
        Due.is("F may not be missing", x.derive(0), NONE);
        x.word(0, 1, 1001, 0);
        Due.is("F is there", x.derive(0), 2);
        x.clear();
        x.word(0, 1, 1, 0);
        x.word(0, 0, 1001, 0);
        Due.is("F is before N", x.derive(0), NONE);
        Due.form(x, "N?0F;", 1);
        Due.is("N is there, but behind F", x.derive(0), NONE);
        Due.form(x, "FN?0;", 1);
        Due.is("both are there", x.derive(0), 2);
        Due.is("N may not be missing with its place there", x.derive(1), NONE);
        Due.form(x, "N;", 1);
        x.clear();
        x.word(0, 1, 1, 0);
        Due.is("no alternative is of its kind", x.derive(0), NONE);
        x.word(0, 2, 1, 0);
        x.word(0, 3, 1, 0);
        x.word(0, 0, 1, 0);
        Due.is("only the last alternative is", x.part(0, 0, 4), 3);
    }

    private static void allPlacesOfOneLine() {
        Due.says("The parts of a row that are there take all places of one line, in order");
        AddressGrammar x = Due.with("N?1F?1S?1H?1X?1B?1;");
        for (int place = 0; place < 5; place++) {
            x.word(0, place, place * 1000, 0);
            Due.is("all places", x.derive(0), place + 1);
            Due.is("the others are missing", x.sum(0), 5 - place);
            Due.is("and no other reading", x.derive(1), NONE);
        }
        Due.form(x, "NFSHX;", 1);
        Due.is("five parts and five places", x.derive(0), 5);
        Due.form(x, "NFSH;", 1);
        Due.is("a place too many", x.derive(0), NONE);
        Due.form(x, "NFSH;X;", 2);
        Due.is("two rows for one line", x.derive(0), NONE);
        Due.form(x, "NFSHXB;", 1);
        Due.is("a place too few", x.derive(0), NONE);
        Due.form(x, "NFSHXB?3;", 1);
        Due.is("a place too few, but one may be missing", x.sum(0), 3);
        x.word(1, 5, 0, 0);
        Due.is("a row over a line of five places and the next one", x.derive(0), NONE);
        Due.form(x, "NFSHXB;C?1;", 2);
        Due.is("the same, and B may not be missing", x.derive(0), NONE);
        Due.form(x, "NFSHX;B;", 2);
        Due.is("a row for each", x.derive(0), 6);
    }

    private static void aRowWithoutALine() {
        Due.says("a row of which all are missing takes no line");
        AddressGrammar x = Due.with("N?1F?2;");
        Due.is("no lines, all are missing", x.derive(0), 0);
        Due.is("their sum", x.sum(0), 3);
        Due.is("no other reading", x.derive(1), NONE);
        Due.form(x, "N?1F;", 1);
        Due.is("one may not be missing", x.derive(0), NONE);
        x.word(0, 2, 0, 0);
        String[] forms = {"N?1;F?1;S;", "N?1;S;F?1;", "S;N?1;F?1;"};
        for (String form : forms) {
            Due.form(x, form, 3);
            Due.is("the line of the only row", x.part(0, 0, 1), 0);
            Due.is("sum with " + form, x.sum(0), 2);
        }
        Due.form(x, "N?1;F?1;", 2);
        Due.is("all are missing, a line is there", x.derive(0), NONE);
    }

    private static void allLinesInOrder() {
        Due.says("rows take the lines in order, and all of them");
        AddressGrammar x = Due.with("N?1;F?1;");
        x.word(0, 1, 5, 0);
        x.word(1, 0, 6, 0);
        Due.is("in the other order", x.derive(0), NONE);
        Due.form(x, "F?1;N?1;", 2);
        Due.is("in their order", x.derive(0), 2);
        Due.is("the first line", x.part(0, 0, 1), 0);
        Due.is("the second line", x.part(0, 1, 1), 1);
        x.word(2, 1, 7, 0);
        Due.is("a line too many", x.derive(0), NONE);
        Due.form(x, "F;N;S;", 3);
        Due.is("none of the last row's kind", x.derive(0), NONE);
        Due.form(x, "N;F;S;H;X;B;", 6);
        x.clear();
        for (int line = 0; line < 6; line++) {
            Due.is("lines too few", x.derive(0), NONE);
            x.word(line, line, 0, 0);
        }
        Due.is("six lines", x.derive(0), 6);
        Due.is("the sixth", x.part(0, 5, 1), 5);
        Due.form(x, "N;F;S;H;X;", 5);
        Due.is("a row too few", x.derive(0), NONE);
        Due.form(x, "N;F;S;H;X;B;C;", 7);
        Due.is("a row too many", x.derive(0), NONE);
        Due.form(x, "N;F;S;H;X;B;C?1;P?1;L?1;", 9);
        Due.is("nine rows, of which three are missing", x.sum(0), 3);
    }

    private static void costsOfBoth() {
        Due.says("ITS SUM: the costs of what is taken and of what is missing");
        AddressGrammar x = Due.with("NFSHX;BCPL;");
        for (int i = 0; i < 9; i++) {
            x.word(i / 5, i, i % 5 * 1000, 1000);
        }
        Due.is("the greatest sum", x.sum(0), 9200);
        AddressGrammar y = Due.with("N?999F?999S?999H?999X?999B?999C?999P?999L?999;");
        Due.is("all are missing", y.sum(0), 8991);
        AddressGrammar z = Due.with("N?999F;H?0;");
        z.word(0, 1, 0, 1000);
        Due.is("both", z.sum(0), 1999);
        z.word(0, 1, 0, 0);
        Due.is("what is not taken costs nothing", z.sum(0), 999);
    }

    private static void hundredForTheCode() {
        Due.says("100 for the code, if it and the place are there, and it was not told that they FIT");
        hundred("C", 6, 2);
    }

    private static void hundredForTheStreet() {
        Due.says("100 for the street and the place likewise");
        hundred("S", 2, 6);
        Due.says("ITS SUM, with both");
        AddressGrammar x = Due.with("SC;P;");
        x.word(0, 2, 0, 0);
        x.word(0, 6, 1999, 0);
        x.word(1, 7, 0, 0);
        Due.is("neither fits", x.sum(0), 200);
        x.fits(2, 0, 0);
        Due.is("the street fits", x.sum(0), 100);
        x.fits(6, 999, 0);
        Due.is("both fit", x.sum(0), 0);
        Due.form(x, "P;SC;", 2);
        Due.is("another order has no reading here", x.sum(0), NONE);
        x.clear();
        x.word(0, 7, 1, 0);
        x.word(1, 2, 0, 0);
        x.word(1, 6, 1999, 0);
        Due.is("another place, in front", x.sum(0), 200);
    }

    private static void hundred(String letter, int kind, int otherKind) {
        AddressGrammar x = Due.with(letter + "?1;P?1;");
        x.word(0, kind, 0, 0);
        Due.is("the place is missing", x.sum(0), 1);
        x.clear();
        x.word(0, 7, 0, 0);
        Due.is("it is missing itself", x.sum(0), 1);
        x.clear();
        x.word(0, kind, 999, 0);
        x.word(1, 7, 0, 0);
        Due.is("both are there", x.sum(0), 100);
        x.fits(kind, 0, 999);
        Due.is("told the other way round", x.sum(0), 100);
        x.fits(otherKind, 999, 0);
        Due.is("told of the other kind", x.sum(0), 100);
        x.fits(kind, 999, 1);
        Due.is("told of another place", x.sum(0), 100);
        x.fits(kind, 998, 0);
        Due.is("told of another value", x.sum(0), 100);
        x.fits(kind, 999, 0);
        Due.is("told", x.sum(0), 0);
        AddressGrammar y = Due.with("NP;");
        y.word(0, 0, 0, 0);
        y.word(0, 7, 1000, 0);
        Due.is("the form has none", y.sum(0), 0);
        AddressGrammar z = Due.with("N" + letter + ";");
        z.word(0, 0, 0, 0);
        z.word(0, kind, 1000, 0);
        Due.is("the form has no place", z.sum(0), 0);
    }

    private static void theLesserSum() {
        Due.says("Of two readings the one with the lesser sum is BEFORE the other one");
        AddressGrammar x = Due.with("N;");
        x.word(0, 0, 5, 1000);
        x.word(0, 0, 6, 999);
        Due.is("rank 0", x.part(0, 0, 4), 1);
        Due.is("rank 1", x.part(1, 0, 4), 0);
        AddressGrammar y = Due.with("S;P;");
        y.fits(2, 8, 9);
        y.word(0, 2, 7, 0);
        y.word(0, 2, 8, 99);
        y.word(1, 7, 9, 0);
        Due.is("99 is less than 100", y.part(0, 0, 3) * 1000 + y.sum(0), 8099);
        y.clear();
        y.word(0, 2, 7, 0);
        y.word(0, 2, 8, 101);
        y.word(1, 7, 9, 0);
        Due.is("101 is more than 100", y.part(0, 0, 3) * 1000 + y.sum(0), 7100);
        y.clear();
        y.word(0, 2, 8, 100);
        y.word(0, 2, 7, 0);
        y.word(1, 7, 9, 0);
        Due.is("100 is the same", y.part(0, 0, 3) * 1000 + y.sum(0), 8100);
        Due.is("and behind it", y.part(1, 0, 3) * 1000 + y.sum(1), 7100);
    }

    private static void theLesserAlternative() {
        Due.says("with the same sum .. the one that takes the lesser alternative there");
        AddressGrammar x = Due.with("N;");
        for (int number = 0; number < 4; number++) {
            x.word(0, 0, 9 - number, 7);
        }
        Due.is("rank 0", x.part(0, 0, 4), 0);
        Due.is("rank 1", x.part(1, 0, 4), 1);
        AddressGrammar y = Due.with("P;");
        y.word(0, 0, 0, 0);
        y.word(0, 7, 9, 7);
        y.word(0, 7, 5, 7);
        y.word(0, 7, 9, 7);
        Due.is("places: rank 0", y.part(0, 0, 4), 1);
        Due.is("places: rank 1", y.part(1, 0, 4), 2);
    }

    private static void theMissingBehindAll() {
        Due.says("(that is missing: behind all)");
        AddressGrammar x = Due.with("N?1F?1;");
        x.word(0, 1, 1, 1);
        x.word(0, 2, 1, 0);
        x.word(0, 2, 1, 0);
        x.word(0, 0, 1, 1);
        Due.is("both have the same sum", x.sum(0) * 10 + x.sum(1), 22);
        Due.is("N by the last alternative", x.part(0, 0, 0) * 10 + x.part(0, 0, 4), 3);
        Due.is("N is missing", x.part(1, 0, 0) * 10 + x.part(1, 0, 4), 10);
        AddressGrammar y = Due.with("P?0S?0;");
        y.word(0, 2, 1, 0);
        y.word(0, 0, 1, 0);
        y.word(0, 0, 1, 0);
        y.word(0, 7, 1, 0);
        Due.is("P by the last alternative", y.part(0, 0, 0) * 10 + y.part(0, 0, 4), 73);
        Due.is("P is missing", y.part(1, 0, 0) * 10 + y.part(1, 0, 4), 20);
    }

    private static void theFirstPartThatDiffers() {
        Due.says("with the same sum, by the first part in which they differ");
        AddressGrammar x = Due.with("N;F;S;");
        for (int number = 0; number < 4; number++) {
            x.word(0, 0, number, number);
            x.word(1, 1, number, 3 - number);
            x.word(2, 2, number, 9);
        }
        // The least sum: N 0 and F 3 with each S; so the first two differ in the last part.
        Due.is("rank 0", choices(x, 0), 30);
        Due.is("rank 1", choices(x, 1), 31);
        x.clear();
        for (int number = 0; number < 2; number++) {
            x.word(0, 0, number, 5);
            x.word(1, 1, number, 5);
            x.word(2, 2, number, 2 * number);
        }
        Due.is("rank 0 of four", choices(x, 0), 0);
        Due.is("rank 1 of four", choices(x, 1), 10);
    }

    private static int choices(AddressGrammar x, int rank) {
        return x.part(rank, 0, 4) * 100 + x.part(rank, 1, 4) * 10 + x.part(rank, 2, 4);
    }

    private static void twoRanks() {
        Due.says("RANK 0 is the first of all readings, RANK 1 the second one.");
        AddressGrammar x = Due.with("N;");
        Due.is("no reading: rank 0", x.derive(0), NONE);
        Due.is("no reading: rank 1", x.derive(1), NONE);
        x.word(0, 0, 1, 5);
        Due.is("one reading: rank 0", x.sum(0), 5);
        Due.is("one reading: rank 1", x.sum(1), NONE);
        x.word(0, 0, 1, 4);
        Due.is("two readings: rank 0", x.sum(0), 4);
        Due.is("two readings: rank 1", x.sum(1), 5);
        x.word(0, 0, 1, 3);
        Due.is("three readings: rank 0", x.sum(0), 3);
        Due.is("three readings: rank 1", x.sum(1), 4);
        Due.is("there is no rank 2", x.sum(2), OUTSIDE);
    }

    private static void theSecondDiffersAnywhere() {
        Due.says("RANK 1 the second one, whichever part it differs in");
        int[][] rows = {{2, 0, 1, 3, 4}, {5, 6, 8, 7}};
        for (int cheap = 0; cheap < 4; cheap++) {
            AddressGrammar x = Due.with("SNFHX;BCLP;");
            for (int other = 0; other < 9; other++) {
                x.clear();
                for (int i = 0; i < 36; i++) {
                    int part = i / 4;
                    int cost = i % 4 == cheap ? 0 : part == other ? 2 : 3;
                    x.word(part / 5, rows[part / 5][part % 5], part % 5 * 1000, cost);
                }
                Due.is("sum(0)", x.sum(0), 200);
                Due.is("sum(1)", x.sum(1), 202);
                // All of its parts have the cheap alternative, but for the other one in rank 1.
                Due.is("rank 0, part " + other, x.part(0, other, 4), cheap);
                Due.is("rank 1, part " + other, x.part(1, other, 4), cheap == 0 ? 1 : 0);
                Due.is("rank 1, the part behind", x.part(1, (other + 1) % 9, 4), cheap);
            }
        }
    }

    private static void theFirstRefusal() {
        Due.says("REFUSALS are answers, of several the first one here: OUTSIDE, STATE, ROOM.");
        AddressGrammar x = new AddressGrammar();
        Due.is("STATE alone", x.word(1, 0, 0, 0), STATE);
        Due.is("OUTSIDE by the kind, and STATE", x.word(1, 9, 0, 0), OUTSIDE);
        Due.is("OUTSIDE by the kind below, and STATE", x.word(1, -1, 0, 0), OUTSIDE);
        Due.is("OUTSIDE by the cost, and STATE", x.word(1, 0, 0, 1001), OUTSIDE);
        Due.is("OUTSIDE by the cost below, and STATE", x.word(0, 0, 1000, -1), OUTSIDE);
        Due.is("OUTSIDE by the value, and STATE", x.word(1, 0, 5000, 0), OUTSIDE);
        Due.is("OUTSIDE by the line, and STATE", x.word(6, 0, 1000, 0), OUTSIDE);
        for (int number = 0; number < 4; number++) {
            x.word(0, 0, 0, 0);
        }
        Due.is("ROOM alone", x.word(0, 0, 0, 0), ROOM);
        Due.is("OUTSIDE by the kind, and ROOM", x.word(0, 9, 0, 0), OUTSIDE);
        Due.is("OUTSIDE by the cost, and ROOM", x.word(0, 0, 0, 1001), OUTSIDE);
        Due.is("OUTSIDE by the cost below, and ROOM", x.word(0, 0, 999, -1), OUTSIDE);
        Due.is("a full place, and a place behind the next one", x.word(0, 0, 2000, 0), STATE);
    }
}
