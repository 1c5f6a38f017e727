/** Promises 12 and 13: print, at. */
public final class PrintTest {
    private static final int NONE = AddressGrammar.NONE, OUTSIDE = AddressGrammar.OUTSIDE;

    public static void main(String[] args) {
        values();
        rows();
        gone();
        refusals();
        whatWasPrintedStays();
        longest();
        Due.end("PrintTest");
    }

    private static void values() {
        int[] all = {0, 1, 9, 10, 19, 90, 99, 100, 101, 110, 900, 909, 990, 999};
        for (int value : all) {
            AddressGrammar x = Due.with("L;");
            x.word(0, 8, value, 0);
            Due.prints(x, 0, "L" + value + ";");
        }
    }

    private static void rows() {
        AddressGrammar x = Due.with("N;F?9;SH?3X?0;C?1P?1;L?20;");
        x.word(0, 0, 17, 1);
        x.word(1, 2, 5, 2);
        x.word(1, 3, 1012, 0);
        x.word(1, 4, 1007, 0);
        Due.prints(x, 0, "N17;S5H12;");
        Due.prints(x, 1, "N17;S5X7;");
        x.word(2, 8, 40, 0);
        Due.prints(x, 0, "N17;S5H12;L40;");
        Due.form(x, "X?0N;H;L;", 3);
        Due.prints(x, 0, "");
        Due.form(x, "X?0N;SH;C?0B?0;L;", 4);
        Due.prints(x, 0, "N17;S5H12;L40;");
    }

    private static void gone() {
        AddressGrammar x = Due.with("N?1;");
        x.word(0, 0, 17, 1);
        Due.prints(x, 0, "N17;");
        Due.prints(x, 1, "");
        Due.prints(x, 0, "N17;");
        x.clear();
        Due.is("a reading without parts", x.derive(0), 0);
        Due.prints(x, 0, "");
        AddressGrammar y = new AddressGrammar();
        y.word(0, 0, 1, 0);
        Due.prints(y, 0, "");
    }

    private static void refusals() {
        AddressGrammar x = Due.with("N;");
        x.word(0, 0, 17, 1);
        x.print(0);
        int[] no = {-1, 2, Integer.MIN_VALUE, Integer.MAX_VALUE};
        for (int rank : no) {
            Due.is("print(" + rank + ")", x.print(rank), OUTSIDE);
            Due.is("print(" + rank + ") without a form", new AddressGrammar().print(rank), OUTSIDE);
            Due.is("what was printed", Due.printed(x), "N17;");
        }
        int[] places = {-1, 4, 5, 60, Integer.MIN_VALUE, Integer.MAX_VALUE};
        for (int i : places) {
            Due.is("at(" + i + ")", x.at(i), NONE);
        }
        Due.is("at(0)", x.at(0), 'N');
        Due.is("at(3)", x.at(3), ';');
    }

    private static void whatWasPrintedStays() {
        AddressGrammar x = Due.with("N;");
        x.word(0, 0, 17, 1);
        Due.prints(x, 0, "N17;");
        x.word(0, 0, 18, 0);
        x.derive(0);
        Due.form(x, "F;", 1);
        Due.fault(x, "F", 1);
        x.fits(2, 1, 1);
        x.clear();
        Due.is("what was printed", Due.printed(x), "N17;");
    }

    private static void longest() {
        AddressGrammar x = Due.with("NF;SH;XB;C;P;L;");
        int[] lines = {0, 0, 1, 1, 2, 2, 3, 4, 5};
        int[] places = {0, 1, 0, 1, 0, 1, 0, 0, 0};
        for (int kind = 0; kind < 9; kind++) {
            x.word(lines[kind], kind, places[kind] * 1000 + 100 + kind, 0);
        }
        Due.prints(x, 0, "N100F101;S102H103;X104B105;C106;P107;L108;");
    }
}
