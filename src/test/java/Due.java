/** Counts and prints the answers that are not as due; shared by the tests of the project. */
final class Due {
    private static int wrong = 0;
    private static int asked = 0;

    private Due() {
    }

    static void is(String call, long got, long want) {
        asked++;
        if (got != want) {
            wrong++;
            System.out.println(call + " answered " + got + ", due is " + want);
        }
    }

    static void is(String call, boolean got, boolean want) {
        is(call, got ? 1L : 0L, want ? 1L : 0L);
    }

    static void is(String call, String got, String want) {
        asked++;
        if (!got.equals(want)) {
            wrong++;
            System.out.println(call + " answered \"" + got + "\", due is \"" + want + "\"");
        }
    }

    static void write(AddressGrammar x, String text) {
        for (int i = 0; i < text.length(); i++) {
            is("sign of " + text.charAt(i) + " in " + text, x.sign(text.charAt(i)), true);
        }
    }

    /** Writes and reads a form that has so many rows. */
    static void form(AddressGrammar x, String text, int rows) {
        write(x, text);
        int got = -99;
        try {
            got = x.read();
        } catch (IllegalStateException e) {
            System.out.println("read of " + text + " throws");
        }
        is("read of " + text, got, rows);
    }

    /** Writes and reads a text that has its fault at a place. */
    static void fault(AddressGrammar x, String text, int place) {
        write(x, text);
        boolean threw = false;
        try {
            x.read();
        } catch (IllegalStateException e) {
            threw = true;
        }
        is("read of \"" + text + "\" throws", threw, true);
        is("wrong() behind \"" + text + "\"", x.wrong(), place);
    }

    /** A new object with a form. */
    static AddressGrammar with(String text) {
        AddressGrammar x = new AddressGrammar();
        write(x, text);
        x.read();
        return x;
    }

    /** All that is printed now, by at alone. */
    static String printed(AddressGrammar x) {
        StringBuilder all = new StringBuilder();
        for (int i = 0; i < 1000 && x.at(i) != AddressGrammar.NONE; i++) {
            all.append((char) x.at(i));
        }
        return all.toString();
    }

    /** Prints a reading, whose text is due. */
    static void prints(AddressGrammar x, int rank, String want) {
        is("print(" + rank + ")", x.print(rank), want.length());
        is("what print(" + rank + ") printed", printed(x), want);
    }

    static void end(String test) {
        System.out.println(test + ": " + asked + " answers, " + wrong + " not as due");
        if (wrong != 0 || asked == 0) {
            System.exit(1);
        }
    }
}
