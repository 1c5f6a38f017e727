import java.util.ArrayList;
import java.util.Collections;
import java.util.List;
import java.util.Random;

/** All promises: runs of many calls, each answered by the class and by Plain. */
public final class PlainTest {
    // Behind these the document leaves an object's answers free.
    private static final int MAX_CALLS = 512;
    // A form with read and wrong, words, what fits, and clear.
    private static final int MAX_TOLD = 54 + 2 + 9 * 4 + 5 + 1;
    // Furthest, and of two ranks derive, sum and print.
    private static final int MAX_BRIEF = 1 + 2 * 3;
    // Of two ranks the facts of ten parts and 43 characters.
    private static final int MAX_ASKED = MAX_BRIEF + 2 * (10 * 5 + 43);
    private static final int MAX_ROUND = MAX_TOLD + MAX_BRIEF + MAX_ASKED;
    private static final int[] EDGES = {Integer.MIN_VALUE, -1000, -1, 0, 1, 5, 6, 9, 60, 999, 1000, 4999, 5000,
        Integer.MAX_VALUE};

    // The same runs each time.
    private final Random random = new Random(20261115);
    private AddressGrammar x;
    private Plain y;
    private int run;
    private int calls;
    private int most;
    private int second;
    private int misfitting;

    public static void main(String[] args) {
        PlainTest test = new PlainTest();
        for (int i = 0; i < 15000; i++) {
            test.run = i;
            test.calls = 0;
            test.x = new AddressGrammar();
            test.y = new Plain();
            test.run(i % 3);
            test.most = Math.max(test.most, test.calls);
        }
        Due.is("all within the calls of an object", test.most <= MAX_CALLS, true);
        // A test of readings that finds none would tell nothing.
        Due.is("many second readings", test.second > 4000, true);
        Due.is("many dear readings", test.misfitting > 1000, true);
        Due.end("PlainTest");
    }

    private void run(int way) {
        if (way == 0) {
            for (int i = 0; i < 120; i++) {
                anyCall();
            }
            return;
        }
        int values = way == 1 ? 3 : 1000;
        List<String> rows = List.of();
        for (int i = 0; calls + MAX_ROUND <= MAX_CALLS; i++) {
            if (i % 2 == 0) {
                rows = readForm();
            }
            writeLines(rows, values);
            // Asked before and behind, so that no answer of before may stay.
            ask(false);
            tellFits(values);
            ask(below(3) == 0);
            same("clear", x.clear(), y.clear());
        }
    }

    /** Every call of the object is asked for here, so that calls can be counted. */
    private void same(String call, long got, long want) {
        calls++;
        Due.is("run " + run + ": " + call, got, want);
    }

    private void same(String call, boolean got, boolean want) {
        calls++;
        Due.is("run " + run + ": " + call, got, want);
    }

    private int below(int bound) {
        return random.nextInt(bound);
    }

    private void signAll(String text) {
        for (char c : text.toCharArray()) {
            same("sign", x.sign(c), y.sign(c));
        }
    }

    private void read() {
        same("read", Due.read(x), y.read());
        same("wrong", x.wrong(), y.wrong());
    }

    private List<String> readForm() {
        List<Character> letters = new ArrayList<>();
        for (char c : "NFSHXBCPL".toCharArray()) {
            letters.add(c);
        }
        Collections.shuffle(letters, random);
        int many = 1 + below(9);
        List<String> rows = new ArrayList<>();
        StringBuilder text = new StringBuilder();
        String row = "";
        for (int i = 0; i < many; i++) {
            text.append(letters.get(i));
            row += letters.get(i);
            if (below(2) == 0) {
                text.append('?').append(below(3) == 0 ? "00" + below(3) : "" + below(4));
            }
            if (i == many - 1 || below(2) == 0) {
                text.append(';');
                rows.add(row);
                row = "";
            }
        }
        signAll(text.toString());
        read();
        return rows;
    }

    private void writeLines(List<String> rows, int values) {
        int line = 0;
        for (String row : rows) {
            if (line < 6 && below(5) != 0) {
                int places = 0;
                for (char letter : row.toCharArray()) {
                    if (places < 5 && below(6) != 0) {
                        writePlace(line, places, "NFSHXBCPL".indexOf(letter), values);
                        places++;
                    }
                }
                line += places > 0 ? 1 : 0;
            }
        }
    }

    private void writePlace(int line, int place, int kind, int values) {
        int many = 1 + below(4);
        for (int i = 0; i < many; i++) {
            int k = below(4) == 0 ? below(9) : kind;
            word(line, k, place * 1000 + below(values), below(20) == 0 ? 99 + below(3) : below(3));
        }
    }

    private void word(int line, int kind, int value, long cost) {
        same("word", x.word(line, kind, value, cost), y.word(line, kind, value, cost));
    }

    private void tellFits(int values) {
        int many = below(6);
        for (int i = 0; i < many; i++) {
            int kind = below(2) == 0 ? 2 : 6;
            int value = below(values);
            int other = below(values);
            same("fits", x.fits(kind, value, other), y.fits(kind, value, other));
        }
    }

    private void ask(boolean all) {
        same("furthest", x.furthest(), y.furthest());
        for (int rank = 0; rank < 2; rank++) {
            same("derive", x.derive(rank), y.derive(rank));
            same("sum", x.sum(rank), y.sum(rank));
            same("print", x.print(rank), y.print(rank));
            if (all) {
                askParts(rank);
                askPrinted();
            }
        }
        second += y.derive(1) >= 0 ? 1 : 0;
        misfitting += y.sum(0) >= 100 ? 1 : 0;
    }

    /** The parts that are there, and one behind them. */
    private void askParts(int rank) {
        for (int i = 0; i <= Math.max(0, y.derive(rank)); i++) {
            for (int what = 0; what < 5; what++) {
                same("part", x.part(rank, i, what), y.part(rank, i, what));
            }
        }
    }

    private void askPrinted() {
        int length = y.printedLength();
        for (int i = 0; i <= length; i++) {
            same("at", x.at(i), y.at(i));
        }
    }

    private int any(int bound) {
        return below(12) == 0 ? EDGES[below(EDGES.length)] : below(bound);
    }

    private void anyCall() {
        int a = any(2);
        int b = any(3);
        int c = any(5);
        switch (below(14)) {
            case 0 -> read();
            case 1, 2, 3 -> signAll("" + "NFSHXBCPL;;;;;;?1234567890 n".charAt(below(28)));
            case 4 -> {
                signAll("" + "NFSHXBCPL".charAt(below(9)) + (below(2) == 0 ? "?" + below(1000) : "") + ";");
                if (below(2) == 0) {
                    read();
                }
            }
            case 5 -> {
                if (below(3) == 0) {
                    same("clear", x.clear(), y.clear());
                }
            }
            case 6, 7 -> word(any(3), any(9), any(2) * (below(2) == 0 ? 1000 : 1), any(4));
            case 8 -> {
                int kind = below(2) == 0 ? 2 : any(9);
                same("fits", x.fits(kind, a, b), y.fits(kind, a, b));
            }
            case 9 -> same("derive", x.derive(a), y.derive(a));
            case 10 -> same("part", x.part(a, b, c), y.part(a, b, c));
            case 11 -> same("sum", x.sum(a), y.sum(a));
            case 12 -> same("print", x.print(a), y.print(a));
            default -> {
                same("at", x.at(b), y.at(b));
                same("furthest", x.furthest(), y.furthest());
                int sign = any(130);
                same("sign", x.sign(sign), y.sign(sign));
            }
        }
    }
}
