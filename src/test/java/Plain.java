import java.util.ArrayList;
import java.util.HashSet;
import java.util.List;
import java.util.Set;
import java.util.regex.Pattern;

/**
 * The document once more, in the plainest way: a text is tried against a pattern, and all readings
 * are made and sorted. The tests ask it and the class the same.
 */
final class Plain {
    static final int THROWS = -99;
    private static final Pattern FORM = Pattern.compile("((?:[NFSHXBCPL](?:\\?[0-9]{1,3})?)+;)+");
    private static final String LETTERS = "NFSHXBCPL";

    private record Word(int kind, int value, long cost) {
    }

    private record Part(int row, int kind, int missing) {
    }

    private record Taken(int kind, int line, int place, int value, int alternative) {
    }

    private record Way(long sum, List<Integer> choices, List<Taken> taken) {
    }

    private String text = "";
    private int wrong = -1;
    private List<Part> form = null;
    private final List<List<List<Word>>> lines = new ArrayList<>();
    private final Set<String> fits = new HashSet<>();
    private String printed = "";
    private List<Way> ways = null;
    private int furthest = -1;

    boolean sign(int c) {
        if (c < 32 || c > 126 || text.length() == 60) {
            return false;
        }
        text = text + (char) c;
        return true;
    }

    int read() {
        String all = text;
        text = "";
        if (!isForm(all)) {
            int place = 0;
            while (place < all.length() && canGoOn(all.substring(0, place + 1))) {
                place++;
            }
            wrong = place;
            return THROWS;
        }
        ways = null;
        form = new ArrayList<>();
        String[] rows = all.split(";");
        for (int row = 0; row < rows.length; row++) {
            for (String part : rows[row].split("(?=[A-Z])")) {
                int missing = part.length() == 1 ? -1 : Integer.parseInt(part.substring(2));
                form.add(new Part(row, LETTERS.indexOf(part.charAt(0)), missing));
            }
        }
        return rows.length;
    }

    private static boolean isForm(String s) {
        if (!FORM.matcher(s).matches()) {
            return false;
        }
        for (char letter : LETTERS.toCharArray()) {
            if (s.indexOf(letter) != s.lastIndexOf(letter)) {
                return false;
            }
        }
        return true;
    }

    private static boolean canGoOn(String s) {
        return isForm(s) || isForm(s + ";") || isForm(s + "0;");
    }

    int wrong() {
        return wrong;
    }

    int word(int line, int kind, int value, long cost) {
        if (line < 0 || line > 5 || kind < 0 || kind > 8 || value < 0 || value > 4999 || cost < 0 || cost > 1000) {
            return -12;
        }
        int place = value / 1000;
        if (line > lines.size() || place > (line == lines.size() ? 0 : lines.get(line).size())) {
            return -13;
        }
        if (line < lines.size() && place < lines.get(line).size() && lines.get(line).get(place).size() == 4) {
            return -14;
        }
        ways = null;
        if (line == lines.size()) {
            lines.add(new ArrayList<>());
        }
        if (place == lines.get(line).size()) {
            lines.get(line).add(new ArrayList<>());
        }
        lines.get(line).get(place).add(new Word(kind, value % 1000, cost));
        return lines.get(line).get(place).size() - 1;
    }

    int clear() {
        int gone = lines.size();
        lines.clear();
        ways = null;
        return gone;
    }

    boolean fits(int kind, int value, int other) {
        if ((kind != 2 && kind != 6) || value < 0 || value > 999 || other < 0 || other > 999 || fits.size() == 60) {
            return false;
        }
        ways = null;
        return fits.add(kind + " " + value + " " + other);
    }

    int derive(int rank) {
        if (rank != 0 && rank != 1) {
            return -12;
        }
        makeWays();
        return rank < ways.size() ? ways.get(rank).taken().size() : -1;
    }

    int part(int rank, int i, int what) {
        if ((rank != 0 && rank != 1) || what < 0 || what > 4) {
            return -12;
        }
        makeWays();
        if (rank >= ways.size() || i < 0 || i >= ways.get(rank).taken().size()) {
            return -1;
        }
        Taken t = ways.get(rank).taken().get(i);
        return new int[] {t.kind(), t.line(), t.place(), t.value(), t.alternative()}[what];
    }

    long sum(int rank) {
        if (rank != 0 && rank != 1) {
            return -12;
        }
        makeWays();
        return rank < ways.size() ? ways.get(rank).sum() : -1;
    }

    int furthest() {
        if (form == null) {
            return -1;
        }
        makeWays();
        return furthest;
    }

    int print(int rank) {
        if (rank != 0 && rank != 1) {
            return -12;
        }
        makeWays();
        printed = "";
        if (rank < ways.size()) {
            int line = 0;
            for (Taken t : ways.get(rank).taken()) {
                printed += (t.line() > line ? ";" : "") + LETTERS.charAt(t.kind()) + t.value();
                line = t.line();
            }
            printed += printed.isEmpty() ? "" : ";";
        }
        return printed.length();
    }

    int at(int i) {
        return i >= 0 && i < printed.length() ? printed.charAt(i) : -1;
    }

    int printedLength() {
        return printed.length();
    }

    private void makeWays() {
        if (ways != null) {
            return;
        }
        ways = new ArrayList<>();
        furthest = 0;
        if (form != null) {
            goOn(0, 0, 0, new Way(0, List.of(), List.of()));
        }
        ways.sort((a, b) -> {
            int order = Long.compare(a.sum(), b.sum());
            for (int i = 0; order == 0 && i < form.size(); i++) {
                order = Integer.compare(a.choices().get(i), b.choices().get(i));
            }
            return order;
        });
    }

    private void goOn(int i, int line, int place, Way way) {
        boolean startsRow = i == form.size() || i == 0 || form.get(i).row() != form.get(i - 1).row();
        if (startsRow && place > 0) {
            if (place == lines.get(line).size()) {
                goOn(i, line + 1, 0, way);
            }
            return;
        }
        if (startsRow) {
            furthest = Math.max(furthest, line);
        }
        if (i == form.size()) {
            if (line == lines.size()) {
                ways.add(new Way(way.sum() + misfits(way.taken()), way.choices(), way.taken()));
            }
            return;
        }
        Part part = form.get(i);
        if (line < lines.size() && place < lines.get(line).size()) {
            List<Word> words = lines.get(line).get(place);
            for (int number = 0; number < words.size(); number++) {
                Word word = words.get(number);
                if (word.kind() == part.kind()) {
                    Taken taken = new Taken(part.kind(), line, place, word.value(), number);
                    goOn(i + 1, line, place + 1,
                        new Way(way.sum() + word.cost(), with(way.choices(), number), with(way.taken(), taken)));
                }
            }
        }
        if (part.missing() >= 0) {
            goOn(i + 1, line, place, new Way(way.sum() + part.missing(), with(way.choices(), 1000), way.taken()));
        }
    }

    private long misfits(List<Taken> taken) {
        long cost = 0;
        for (Taken a : taken) {
            for (Taken b : taken) {
                if ((a.kind() == 2 || a.kind() == 6) && b.kind() == 7
                    && !fits.contains(a.kind() + " " + a.value() + " " + b.value())) {
                    cost += 100;
                }
            }
        }
        return cost;
    }

    private static <T> List<T> with(List<T> list, T more) {
        List<T> longer = new ArrayList<>(list);
        longer.add(more);
        return longer;
    }
}
