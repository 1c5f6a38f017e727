import java.util.ArrayList;
import java.util.Collections;
import java.util.List;
import java.util.Random;

/** All promises: runs of many calls, each answered by the class and by Plain. */
public final class PlainTest {
    private static final int[] EDGES = {Integer.MIN_VALUE, -1000, -1, 0, 1, 5, 6, 9, 60, 999, 1000, 4999, 5000,
        Integer.MAX_VALUE};

    // The same runs each time.
    private final Random random = new Random(20261115);
    private AddressGrammar x;
    private Plain y;
    private int run;
    private int second;
    private int misfitting;

    public static void main(String[] args) {
        PlainTest test = new PlainTest();
        for (int i = 0; i < 6000; i++) {
            test.run = i;
            test.x = new AddressGrammar();
            test.y = new Plain();
            test.run(i % 3);
        }
        // A test of readings that finds none would tell nothing.
        Due.is("many second readings", test.second > 4000, true);
        Due.is("many dear readings", test.misfitting > 1000, true);
        Due.end("PlainTest");
    }

    private void run(int way) {
        if (way == 0) {
            for (int i = 0; i < 120; i++) {
                anyCall();
            }
            return;
        }
        for (int i = 0; i < 3; i++) {
            List<String> rows = readForm();
            for (int k = 0; k < 3; k++) {
                writeLines(rows, way == 1 ? 3 : 1000);
                // Asked before and behind, so that no answer of before may stay.
                askAll();
                tellFits(way == 1 ? 3 : 1000);
                askAll();
                Due.is(name("clear"), x.clear(), y.clear());
            }
        }
    }

    private String name(String call) {
        return "run " + run + ": " + call;
    }

    private int below(int bound) {
        return random.nextInt(bound);
    }

    private void signAll(String text) {
        for (char c : text.toCharArray()) {
            Due.is(name("sign"), x.sign(c), y.sign(c));
        }
    }

    private void read() {
        Due.is(name("read"), Due.read(x), y.read());
        Due.is(name("wrong"), x.wrong(), y.wrong());
    }

    private List<String> readForm() {
        List<Character> letters = new ArrayList<>();
        for (char c : "NFSHXBCPL".toCharArray()) {
            letters.add(c);
        }
        Collections.shuffle(letters, random);
        int many = 1 + below(9);
        List<String> rows = new ArrayList<>();
        StringBuilder text = new StringBuilder();
        String row = "";
        for (int i = 0; i < many; i++) {
            text.append(letters.get(i));
            row += letters.get(i);
            if (below(2) == 0) {
                text.append('?').append(below(3) == 0 ? "00" + below(3) : "" + below(4));
            }
            if (i == many - 1 || below(2) == 0) {
                text.append(';');
                rows.add(row);
                row = "";
            }
        }
        signAll(text.toString());
        read();
        return rows;
    }

    private void writeLines(List<String> rows, int values) {
        int line = 0;
        for (String row : rows) {
            if (line < 6 && below(5) != 0) {
                int places = 0;
                for (char letter : row.toCharArray()) {
                    if (places < 5 && below(6) != 0) {
                        writePlace(line, places, "NFSHXBCPL".indexOf(letter), values);
                        places++;
                    }
                }
                line += places > 0 ? 1 : 0;
            }
        }
    }

    private void writePlace(int line, int place, int kind, int values) {
        int many = 1 + below(4);
        for (int i = 0; i < many; i++) {
            int k = below(4) == 0 ? below(9) : kind;
            word(line, k, place * 1000 + below(values), below(20) == 0 ? 99 + below(3) : below(3));
        }
    }

    private void word(int line, int kind, int value, long cost) {
        Due.is(name("word"), x.word(line, kind, value, cost), y.word(line, kind, value, cost));
    }

    private void tellFits(int values) {
        int many = below(6);
        for (int i = 0; i < many; i++) {
            int kind = below(2) == 0 ? 2 : 6;
            int value = below(values);
            int other = below(values);
            Due.is(name("fits"), x.fits(kind, value, other), y.fits(kind, value, other));
        }
    }

    private void askAll() {
        Due.is(name("furthest"), x.furthest(), y.furthest());
        for (int rank = 0; rank < 2; rank++) {
            Due.is(name("derive"), x.derive(rank), y.derive(rank));
            Due.is(name("sum"), x.sum(rank), y.sum(rank));
            for (int i = 0; i < 10; i++) {
                for (int what = 0; what < 5; what++) {
                    Due.is(name("part"), x.part(rank, i, what), y.part(rank, i, what));
                }
            }
            Due.is(name("print"), x.print(rank), y.print(rank));
            for (int i = 0; i < 44; i++) {
                Due.is(name("at"), x.at(i), y.at(i));
            }
        }
        second += y.derive(1) >= 0 ? 1 : 0;
        misfitting += y.sum(0) >= 100 ? 1 : 0;
    }

    private int any(int bound) {
        return below(12) == 0 ? EDGES[below(EDGES.length)] : below(bound);
    }

    private void anyCall() {
        int a = any(2);
        int b = any(3);
        int c = any(5);
        switch (below(14)) {
            case 0 -> read();
            case 1, 2, 3 -> signAll("" + "NFSHXBCPL;;;;;;?1234567890 n".charAt(below(28)));
            case 4 -> {
                signAll("" + "NFSHXBCPL".charAt(below(9)) + (below(2) == 0 ? "?" + below(1000) : "") + ";");
                if (below(2) == 0) {
                    read();
                }
            }
            case 5 -> {
                if (below(3) == 0) {
                    Due.is(name("clear"), x.clear(), y.clear());
                }
            }
            case 6, 7 -> word(any(3), any(9), any(2) * (below(2) == 0 ? 1000 : 1), any(4));
            case 8 -> {
                int kind = below(2) == 0 ? 2 : any(9);
                Due.is(name("fits"), x.fits(kind, a, b), y.fits(kind, a, b));
            }
            case 9 -> Due.is(name("derive"), x.derive(a), y.derive(a));
            case 10 -> Due.is(name("part"), x.part(a, b, c), y.part(a, b, c));
            case 11 -> Due.is(name("sum"), x.sum(a), y.sum(a));
            case 12 -> Due.is(name("print"), x.print(a), y.print(a));
            default -> {
                Due.is(name("at"), x.at(b), y.at(b));
                Due.is(name("furthest"), x.furthest(), y.furthest());
                int sign = any(130);
                Due.is(name("sign"), x.sign(sign), y.sign(sign));
            }
        }
    }
}
