/** Counts and prints the answers that are not as due; shared by the tests of the project. */
final class Due {
    private static int wrong = 0;
    private static int asked = 0;
    private static String sentence = "";
    private static int askedBefore = 0;

    private Due() {
    }

    /** The document's words that the next answers are due by; each must be asked for. */
    static void says(String words) {
        if (!sentence.isEmpty() && asked == askedBefore) {
            wrong++;
            System.out.println("nothing was asked for \"" + sentence + "\"");
        }
        sentence = words;
        askedBefore = asked;
    }

    private static void tell(String call, String got, String want) {
        wrong++;
        String by = sentence.isEmpty() ? "" : " by \"" + sentence + "\"";
        System.out.println(call + " answered " + got + ", due is " + want + by);
    }

    static void is(String call, long got, long want) {
        asked++;
        if (got != want) {
            tell(call, "" + got, "" + want);
        }
    }

    static void is(String call, boolean got, boolean want) {
        is(call, got ? 1L : 0L, want ? 1L : 0L);
    }

    static void is(String call, String got, String want) {
        asked++;
        if (!got.equals(want)) {
            tell(call, "\"" + got + "\"", "\"" + want + "\"");
        }
    }

    static void write(AddressGrammar x, String text) {
        for (int i = 0; i < text.length(); i++) {
            is("sign of " + text.charAt(i) + " in " + text, x.sign(text.charAt(i)), true);
        }
    }

    /** What read answers, THROWS if it throws what the document says. */
    static int read(AddressGrammar x) {
        try {
            return x.read();
        } catch (IllegalStateException e) {
            return Plain.THROWS;
        }
    }

    /** Writes and reads a form that has so many rows. */
    static void form(AddressGrammar x, String text, int rows) {
        write(x, text);
        is("read of " + text, read(x), rows);
    }

    /** Writes and reads a text that has its fault at a place. */
    static void fault(AddressGrammar x, String text, int place) {
        write(x, text);
        is("read of \"" + text + "\"", read(x), Plain.THROWS);
        is("wrong() behind \"" + text + "\"", x.wrong(), place);
    }

    /** A new object with a form. */
    static AddressGrammar with(String text) {
        AddressGrammar x = new AddressGrammar();
        write(x, text);
        x.read();
        return x;
    }

    /** All that is printed now, by at alone. */
    static String printed(AddressGrammar x) {
        StringBuilder all = new StringBuilder();
        for (int i = 0; i < 1000 && x.at(i) != AddressGrammar.NONE; i++) {
            all.append((char) x.at(i));
        }
        return all.toString();
    }

    /** Prints a reading, whose text is due. */
    static void prints(AddressGrammar x, int rank, String want) {
        is("print(" + rank + ")", x.print(rank), want.length());
        is("what print(" + rank + ") printed", printed(x), want);
    }

    static void end(String test) {
        says("");
        System.out.println(test + ": " + asked + " answers, " + wrong + " not as due");
        if (wrong != 0 || asked == 0) {
            System.exit(1);
        }
    }
}
