/**
 * "A call that is refused, or throws, changes nothing, but for what is said." Each refused call is
 * made on one of two objects with the same past; both must answer the same behind it.
 */
public final class RefusalsTest {
    private static final int NONE = AddressGrammar.NONE, OUTSIDE = AddressGrammar.OUTSIDE;
    private static final int STATE = AddressGrammar.STATE, ROOM = AddressGrammar.ROOM;
    private static final int LEAST = Integer.MIN_VALUE, GREATEST = Integer.MAX_VALUE;
    private static final String WRITTEN = "N;F?7;";

    public static void main(String[] args) {
        refusedSigns();
        refusedReads();
        refusedWords();
        refusedFits();
        refusedRanks();
        questions();
        Due.end("RefusalsTest");
    }

    /** With a form, a fault, two lines, a full place, told fits, a printed reading, and a text. */
    private static AddressGrammar used(String written) {
        AddressGrammar x = Due.with("S?9C?8;P?2L;");
        Due.fault(x, "S;?", 2);
        for (int number = 0; number < 4; number++) {
            x.word(0, number % 2 == 0 ? 2 : 6, number, number);
        }
        x.word(1, 7, 5, 1);
        x.word(1, 8, 1006, 1);
        x.fits(2, 2, 5);
        x.fits(6, 1, 5);
        x.print(1);
        Due.write(x, written);
        return x;
    }

    /** All that calls tell of an object; the last ones change it. */
    private static String told(AddressGrammar x) {
        StringBuilder all = new StringBuilder("printed " + Due.printed(x));
        all.append(" wrong ").append(x.wrong()).append(" furthest ").append(x.furthest());
        for (int rank = 0; rank < 2; rank++) {
            all.append(" reading ").append(x.derive(rank)).append(' ').append(x.sum(rank));
            for (int i = 0; i < 9; i++) {
                for (int what = 0; what < 5; what++) {
                    all.append(' ').append(x.part(rank, i, what));
                }
            }
        }
        all.append(" fits ").append(x.fits(2, 2, 5)).append(x.fits(6, 1, 5)).append(x.fits(6, 0, 0));
        int room = 0;
        while (room < 60 && x.fits(2, 999 - room, 999)) {
            room++;
        }
        all.append(room).append(" words");
        for (int i = 0; i < 30; i++) {
            all.append(' ').append(x.word(i / 5, 0, i % 5 * 1000, 0));
        }
        all.append(" read ").append(Due.read(x)).append(' ').append(x.wrong()).append(' ').append(x.sum(0));
        return all.append(" clear ").append(x.clear()).toString();
    }

    private static void unchanged(String call, AddressGrammar x) {
        Due.is("all answers behind " + call, told(x), told(used(WRITTEN)));
    }

    private static void refusedSigns() {
        Due.says("a sign that is refused changes nothing");
        int[] no = {31, 127, -1, 0, 65536 + 'N', LEAST, GREATEST};
        for (int c : no) {
            AddressGrammar x = used(WRITTEN);
            Due.is("sign(" + c + ")", x.sign(c), false);
            unchanged("sign(" + c + ")", x);
        }
        String full = WRITTEN + "S;".repeat(27);
        AddressGrammar x = used(full);
        Due.is("the 61st", x.sign(';'), false);
        Due.is("all answers behind the 61st", told(x), told(used(full)));
    }

    private static void refusedReads() {
        Due.says("a read that throws empties the text and tells wrong(), and changes nothing else");
        String[] faults = {"", "N", "N;N", "NFSHXBCPL", "?", "N?1234;", "P;L;C;S;;"};
        int[] places = {0, 1, 2, 9, 0, 5, 8};
        for (int i = 0; i < faults.length; i++) {
            AddressGrammar x = used("");
            Due.fault(x, faults[i], places[i]);
            Due.write(x, WRITTEN);
            String due = told(used(WRITTEN)).replace("wrong 2 ", "wrong " + places[i] + " ");
            int at = due.indexOf(" read 2 2 ");
            Due.is("the place of the text's form", at > 0, true);
            due = due.replace(" read 2 2 ", " read 2 " + places[i] + " ");
            Due.is("all answers behind " + faults[i], told(x), due);
        }
    }

    private static void refusedWords() {
        Due.says("a word that is refused changes nothing");
        int[][] no = {{-1, 0, 0, 0, OUTSIDE}, {6, 0, 0, 0, OUTSIDE}, {0, -1, 1000, 0, OUTSIDE},
            {0, 9, 1000, 0, OUTSIDE}, {0, 0, -1, 0, OUTSIDE}, {0, 0, 5000, 0, OUTSIDE}, {0, 0, 1000, -1, OUTSIDE},
            {0, 0, 1000, 1001, OUTSIDE}, {2, 0, 0, 1001, OUTSIDE}, {LEAST, 0, 0, 0, OUTSIDE},
            {GREATEST, 0, 0, 0, OUTSIDE}, {0, 0, LEAST, 0, OUTSIDE}, {0, 0, GREATEST, 0, OUTSIDE},
            {3, 0, 0, 0, STATE}, {5, 0, 0, 0, STATE}, {2, 0, 1000, 0, STATE}, {0, 0, 2000, 0, STATE},
            {1, 8, 3000, 0, STATE}, {0, 2, 4999, 0, STATE}, {0, 2, 0, 0, ROOM}, {0, 0, 999, 1000, ROOM}};
        for (int[] row : no) {
            String call = "word(" + row[0] + ", " + row[1] + ", " + row[2] + ", " + row[3] + ")";
            AddressGrammar x = used(WRITTEN);
            Due.is(call, x.word(row[0], row[1], row[2], row[3]), row[4]);
            unchanged(call, x);
        }
    }

    private static void refusedFits() {
        Due.says("fits that is false changes nothing");
        int[][] no = {{2, 2, 5}, {6, 1, 5}, {0, 0, 0}, {7, 0, 0}, {8, 0, 5}, {-1, 0, 5}, {3, 0, 5}, {2, -1, 5},
            {2, 1000, 5}, {6, 3, -1}, {6, 3, 1000}, {6, LEAST, 5}, {6, GREATEST, 5}, {LEAST, 0, 5}, {2, 0, GREATEST}};
        for (int[] row : no) {
            String call = "fits(" + row[0] + ", " + row[1] + ", " + row[2] + ")";
            AddressGrammar x = used(WRITTEN);
            Due.is(call, x.fits(row[0], row[1], row[2]), false);
            unchanged(call, x);
        }
        AddressGrammar x = used(WRITTEN);
        AddressGrammar y = used(WRITTEN);
        for (int i = 0; i < 58; i++) {
            Due.is("fits", x.fits(6, 100 + i, 0), y.fits(6, 100 + i, 0));
        }
        Due.is("the 61st", x.fits(2, 0, 5), false);
        Due.is("all answers behind the 61st", told(x), told(y));
    }

    private static void refusedRanks() {
        Due.says("derive, part, sum and print that are refused change nothing");
        int[] no = {-1, 2, LEAST, GREATEST};
        for (int rank : no) {
            AddressGrammar x = used(WRITTEN);
            Due.is("derive(" + rank + ")", x.derive(rank), OUTSIDE);
            Due.is("sum(" + rank + ")", x.sum(rank), OUTSIDE);
            Due.is("part(" + rank + ", 0, 0)", x.part(rank, 0, 0), OUTSIDE);
            int what = rank == 2 ? 5 : rank;
            Due.is("part(0, 0, " + what + ")", x.part(0, 0, what), OUTSIDE);
            Due.is("print(" + rank + ")", x.print(rank), OUTSIDE);
            unchanged("print(" + rank + ")", x);
        }
    }

    private static void questions() {
        Due.says("what only asks changes nothing");
        AddressGrammar x = used(WRITTEN);
        for (int rank = 0; rank < 2; rank++) {
            x.derive(rank);
            x.sum(rank);
            x.part(rank, 3, 4);
        }
        Due.is("part(0, 99, 0)", x.part(0, 99, 0), NONE);
        Due.is("at(99)", x.at(99), NONE);
        Due.is("furthest()", x.furthest(), 2);
        Due.is("wrong()", x.wrong(), 2);
        unchanged("questions", x);
    }
}
