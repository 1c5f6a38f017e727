/** Promises 1 to 4: a new object, sign, read, wrong. */
public final class FormTest {
    private static final String WHOLE = "N?000F?001;S?010H?100;X?009;B?090;C?900;P?999;L?000;";

    public static void main(String[] args) {
        newObject();
        signs();
        formsThatAre();
        faultsAtTheFirstCharacterThatCannotBe();
        faultsAtTheEnd();
        aFaultKeepsTheForm();
        wrongIsTheLatestFault();
        costsOfWhatIsMissing();
        Due.end("FormTest");
    }

    private static void newObject() {
        AddressGrammar x = new AddressGrammar();
        Due.is("new: wrong()", x.wrong(), AddressGrammar.NONE);
        Due.is("new: at(0)", x.at(0), AddressGrammar.NONE);
        Due.is("new: furthest()", x.furthest(), AddressGrammar.NONE);
        for (int rank = 0; rank < 2; rank++) {
            Due.is("new: derive", x.derive(rank), AddressGrammar.NONE);
            Due.is("new: sum", x.sum(rank), AddressGrammar.NONE);
            Due.is("new: part", x.part(rank, 0, 0), AddressGrammar.NONE);
            Due.is("new: print", x.print(rank), 0);
        }
        Due.is("new: clear()", x.clear(), 0);
        Due.is("new: word to line 1", x.word(1, 0, 0, 0), AddressGrammar.STATE);
        Due.fault(x, "", 0);
        Due.is("furthest() behind a fault alone", x.furthest(), AddressGrammar.NONE);
    }

    private static void signs() {
        AddressGrammar x = new AddressGrammar();
        int[] no = {31, 127, 0, -1, 10, 128, 256 + 78, 65536 + 78, Integer.MIN_VALUE, Integer.MAX_VALUE};
        for (int c : no) {
            Due.is("sign(" + c + ")", x.sign(c), false);
        }
        for (int i = 0; i < 60; i++) {
            Due.is("sign " + i, x.sign(i % 2 == 0 ? 32 : 126), true);
        }
        Due.is("sign of one too many", x.sign(78), false);
        Due.is("sign of one too many, again", x.sign(78), false);
        Due.fault(x, "", 0);
        Due.form(x, "N;", 1);
        AddressGrammar y = new AddressGrammar();
        Due.write(y, "N");
        Due.is("sign(31)", y.sign(31), false);
        Due.form(y, ";", 1);
        AddressGrammar z = new AddressGrammar();
        Due.write(z, WHOLE + ";".repeat(60 - WHOLE.length()));
        Due.is("the 61st", z.sign(';'), false);
        Due.fault(z, "", WHOLE.length());
    }

    private static void formsThatAre() {
        AddressGrammar x = new AddressGrammar();
        for (String letter : "N F S H X B C P L".split(" ")) {
            Due.form(x, letter + ";", 1);
        }
        Due.form(x, "NFSHXBCPL;", 1);
        Due.form(x, "L;P;C;B;X;H;S;F;N;", 9);
        Due.form(x, WHOLE, 7);
        Due.form(x, "N?0F?00;S?000HX?12;", 2);
        Due.is("wrong() without a fault", x.wrong(), AddressGrammar.NONE);
    }

    private static void faultsAtTheFirstCharacterThatCannotBe() {
        AddressGrammar x = new AddressGrammar();
        Due.fault(x, ";", 0);
        Due.fault(x, "?1;", 0);
        Due.fault(x, "1;", 0);
        Due.fault(x, "n;", 0);
        Due.fault(x, "A;", 0);
        Due.fault(x, " N;", 0);
        Due.fault(x, "N ;", 1);
        Due.fault(x, "N1;", 1);
        Due.fault(x, "NN;", 1);
        Due.fault(x, "N;N;", 2);
        Due.fault(x, "NFN;", 2);
        Due.fault(x, "N?1FSN?", 5);
        Due.fault(x, "N??1;", 2);
        Due.fault(x, "N?;", 2);
        Due.fault(x, "N?F;", 2);
        Due.fault(x, "N?1?2;", 3);
        Due.fault(x, "N?1234;", 5);
        Due.fault(x, "N?0000;", 5);
        Due.fault(x, "N;;", 2);
        Due.fault(x, "N;?1;", 2);
        Due.fault(x, "N?1;2;", 4);
        Due.fault(x, "N;1;", 2);
        Due.fault(x, "N; ", 2);
        Due.fault(x, "N;f;S;S", 2);
        Due.fault(x, "NFSHXBCPLN;", 9);
        Due.fault(x, "NFSHXBCPL;N", 10);
        Due.fault(x, "N:", 1);
        Due.fault(x, "N/;", 1);
        Due.fault(x, "N?/;", 2);
        Due.fault(x, "N?:;", 2);
        Due.fault(x, "N?-1;", 2);
        Due.is("furthest() behind faults alone", x.furthest(), AddressGrammar.NONE);
    }

    private static void faultsAtTheEnd() {
        AddressGrammar x = new AddressGrammar();
        Due.fault(x, "", 0);
        Due.fault(x, "N", 1);
        Due.fault(x, "N?", 2);
        Due.fault(x, "N?1", 3);
        Due.fault(x, "N?123", 5);
        Due.fault(x, "N;F", 3);
        Due.fault(x, "NFSHXBCPL", 9);
    }

    private static void aFaultKeepsTheForm() {
        AddressGrammar x = Due.with("N?5;F?7S;");
        x.word(0, 2, 4, 1);
        Due.is("sum of the form", x.sum(0), 13);
        Due.fault(x, "C;P;C;", 4);
        Due.is("sum behind a fault", x.sum(0), 13);
        Due.is("part behind a fault", x.part(0, 0, 0), 2);
        Due.fault(x, "", 0);
        Due.is("sum behind a second fault", x.sum(0), 13);
        Due.form(x, "S?3;", 1);
        Due.is("sum of the next form", x.sum(0), 1);
        Due.form(x, "N?5;", 1);
        Due.is("derive with a line too many", x.derive(0), AddressGrammar.NONE);
    }

    private static void wrongIsTheLatestFault() {
        AddressGrammar x = new AddressGrammar();
        Due.form(x, "N;", 1);
        Due.is("wrong()", x.wrong(), AddressGrammar.NONE);
        Due.fault(x, "N;F;?", 4);
        Due.form(x, "F;", 1);
        Due.is("wrong() behind a form", x.wrong(), 4);
        Due.fault(x, "NF", 2);
        Due.form(x, "F;", 1);
        Due.form(x, "S;", 1);
        Due.is("wrong() behind two forms", x.wrong(), 2);
    }

    private static void costsOfWhatIsMissing() {
        String[] texts = {"N?0;", "N?00;", "N?000;", "N?7;", "N?07;", "N?007;", "N?70;", "N?070;", "N?700;", "N?999;"};
        int[] costs = {0, 0, 0, 7, 7, 7, 70, 70, 700, 999};
        for (int i = 0; i < texts.length; i++) {
            Due.is("sum of nothing with " + texts[i], Due.with(texts[i]).sum(0), costs[i]);
        }
        Due.is("sum of what may not be missing", Due.with("N;").sum(0), AddressGrammar.NONE);
        Due.is("all nine are missing", Due.with(WHOLE).sum(0), 0 + 1 + 10 + 100 + 9 + 90 + 900 + 999 + 0);
    }
}
