/** The calls that README.md shows, with the answers that it tells. */
public final class ReadmeTest {
    public static void main(String[] args) {
        AddressGrammar x = new AddressGrammar();
        Due.form(x, "N;SH?3;C?9P;", 3);
        Due.is("word of the name", x.word(0, 0, 17, 0), 0);
        Due.is("word of the street", x.word(1, 2, 5, 2), 0);
        Due.is("word of the house number", x.word(1, 3, 1012, 0), 0);
        Due.is("word of the place", x.word(2, 7, 1, 0), 0);
        Due.is("sum(0) before it is told that they fit", x.sum(0), 111);
        Due.is("fits", x.fits(2, 5, 1), true);
        Due.is("sum(0)", x.sum(0), 11);
        Due.prints(x, 0, "N17;S5H12;P1;");
        Due.is("length", "N17;S5H12;P1;".length(), 13);
        Due.is("derive(1)", x.derive(1), AddressGrammar.NONE);
        Due.end("ReadmeTest");
    }
}
