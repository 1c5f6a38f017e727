/**
 * Forms of addresses, lines of words that may be read in more ways than one, and the two readings
 * of least cost that a form allows.
 */
public final class AddressGrammar {
    public static final int NONE = -1, OUTSIDE = -12, STATE = -13, ROOM = -14;

    private static final String LETTERS = "NFSHXBCPL";
    private static final int KINDS = 9;
    private static final int STREET = 2, CODE = 6, PLACE = 7;

    private static final int MAX_TEXT = 60;
    private static final int MAX_DIGITS = 3;
    private static final int MAX_LINES = 6, MAX_PLACES = 5, MAX_ALTERNATIVES = 4;
    private static final int MAX_WORDS = MAX_LINES * MAX_PLACES * MAX_ALTERNATIVES;
    private static final int MAX_COST = 1000;
    private static final int MAX_PAIRS = 60;
    private static final int VALUES = 1000;
    private static final int RANKS = 2;
    private static final int FACTS = 5;
    private static final int MISFIT_COST = 100;

    // One more than the last alternative, so that plain comparison puts it behind all of them.
    private static final int MISSING = MAX_ALTERNATIVES;

    // A letter and three digits for each part, a ; for each line.
    private static final int MAX_PRINTED = KINDS * (1 + MAX_DIGITS) + MAX_LINES;

    private final char[] text = new char[MAX_TEXT];
    private int textLength = 0;
    private int latestFault = NONE;
    private final Form form = new Form();
    // A text is read into this one, so that a fault leaves the form as it was.
    private final Form draft = new Form();
    private final Lines lines = new Lines();
    private final Pairs pairs = new Pairs();
    private final Search search = new Search(form, lines, pairs);
    private final char[] printed = new char[MAX_PRINTED];
    private int printedLength = 0;

    public AddressGrammar() {
    }

    public boolean sign(int c) {
        if (c < 32 || c > 126 || textLength >= text.length) {
            return false;
        }
        text[textLength] = (char) c;
        textLength++;
        return true;
    }

    public int read() throws IllegalStateException {
        int fault = draft.fill(text, textLength);
        textLength = 0;
        if (fault != NONE) {
            latestFault = fault;
            throw new IllegalStateException("the text is not a form");
        }
        form.become(draft);
        search.forget();
        return form.rows;
    }

    public int wrong() {
        return latestFault;
    }

    public int word(int line, int kind, int value, long cost) {
        if (line < 0 || line >= MAX_LINES || kind < 0 || kind >= KINDS) {
            return OUTSIDE;
        }
        if (value < 0 || value >= MAX_PLACES * VALUES || cost < 0 || cost > MAX_COST) {
            return OUTSIDE;
        }
        int place = value / VALUES;
        if (lines.isBehindNext(line, place)) {
            return STATE;
        }
        search.forget();
        return lines.add(line, place, kind, value % VALUES, (int) cost);
    }

    public int clear() {
        int gone = lines.count;
        lines.removeAll();
        search.forget();
        return gone;
    }

    public boolean fits(int kind, int value, int other) {
        if (kind != STREET && kind != CODE) {
            return false;
        }
        if (value < 0 || value >= VALUES || other < 0 || other >= VALUES) {
            return false;
        }
        if (!pairs.add(kind, value, other)) {
            return false;
        }
        search.forget();
        return true;
    }

    public int derive(int rank) {
        if (isNoRank(rank)) {
            return OUTSIDE;
        }
        return readingOf(rank).size;
    }

    public int part(int rank, int i, int what) {
        if (isNoRank(rank) || what < 0 || what >= FACTS) {
            return OUTSIDE;
        }
        return readingOf(rank).fact(i, what);
    }

    public long sum(int rank) {
        if (isNoRank(rank)) {
            return OUTSIDE;
        }
        return readingOf(rank).total;
    }

    public int furthest() {
        if (form.size == 0) {
            return NONE;
        }
        search.find();
        return search.linesReached;
    }

    public int print(int rank) {
        if (isNoRank(rank)) {
            return OUTSIDE;
        }
        printedLength = 0;
        Reading reading = readingOf(rank);
        for (int i = 0; i < reading.size; i++) {
            putPart(reading.fact(i, 0), reading.fact(i, 3));
            // Each row has a line of its own, so a row ends where the line changes.
            if (reading.fact(i, 1) != reading.fact(i + 1, 1)) {
                put(';');
            }
        }
        return printedLength;
    }

    public int at(int i) {
        return i >= 0 && i < printedLength && i < printed.length ? printed[i] : NONE;
    }

    private static boolean isNoRank(int rank) {
        return rank < 0 || rank >= RANKS;
    }

    private Reading readingOf(int rank) {
        search.find();
        return rank == 0 ? search.first : search.second;
    }

    private void putPart(int kind, int value) {
        if (kind < 0 || kind >= LETTERS.length()) {
            return;
        }
        put(LETTERS.charAt(kind));
        if (value >= 100) {
            put((char) ('0' + value / 100));
        }
        if (value >= 10) {
            put((char) ('0' + value / 10 % 10));
        }
        put((char) ('0' + value % 10));
    }

    private void put(char c) {
        if (printedLength < printed.length) {
            printed[printedLength] = c;
            printedLength++;
        }
    }

    /** The parts of a form in their order; without a part it is no form. */
    private static final class Form {
        // No ? stands behind the latest part; with one, the digits behind it are counted from 0.
        private static final int NO_MARK = -1;

        int size = 0;
        int rows = 0;
        private final int[] kinds = new int[KINDS];
        private final int[] missingCosts = new int[KINDS];
        private final boolean[] rowEnds = new boolean[KINDS];
        private final boolean[] used = new boolean[KINDS];
        private int partsInRow = 0;
        private int digits = NO_MARK;

        /** The place of the fault, NONE if the text is a form. */
        int fill(char[] text, int length) {
            empty();
            for (int i = 0; i < length && i < text.length; i++) {
                if (!take(text[i])) {
                    return i;
                }
            }
            return rows > 0 && partsInRow == 0 ? NONE : length;
        }

        private void empty() {
            size = 0;
            rows = 0;
            partsInRow = 0;
            digits = NO_MARK;
            for (int kind = 0; kind < used.length; kind++) {
                used[kind] = false;
            }
        }

        void become(Form other) {
            size = other.size;
            rows = other.rows;
            for (int part = 0; part < size && part < KINDS; part++) {
                kinds[part] = other.kinds[part];
                missingCosts[part] = other.missingCosts[part];
                rowEnds[part] = other.rowEnds[part];
            }
        }

        private boolean take(char c) {
            if (c == ';') {
                return takeRowEnd();
            }
            if (c == '?') {
                return takeMark();
            }
            if (c >= '0' && c <= '9') {
                return takeDigit(c - '0');
            }
            return takePart(LETTERS.indexOf(c));
        }

        private boolean takeRowEnd() {
            int latest = size - 1;
            if (partsInRow == 0 || digits == 0 || latest < 0 || latest >= KINDS) {
                return false;
            }
            rowEnds[latest] = true;
            rows++;
            partsInRow = 0;
            digits = NO_MARK;
            return true;
        }

        private boolean takeMark() {
            int latest = size - 1;
            if (partsInRow == 0 || digits != NO_MARK || latest < 0 || latest >= KINDS) {
                return false;
            }
            missingCosts[latest] = 0;
            digits = 0;
            return true;
        }

        private boolean takeDigit(int digit) {
            int latest = size - 1;
            if (digits == NO_MARK || digits >= MAX_DIGITS || latest < 0 || latest >= KINDS) {
                return false;
            }
            missingCosts[latest] = missingCosts[latest] * 10 + digit;
            digits++;
            return true;
        }

        private boolean takePart(int kind) {
            if (kind < 0 || kind >= KINDS || size < 0 || size >= KINDS) {
                return false;
            }
            if (used[kind] || digits == 0) {
                return false;
            }
            used[kind] = true;
            kinds[size] = kind;
            missingCosts[size] = NONE;
            rowEnds[size] = false;
            size++;
            partsInRow++;
            digits = NO_MARK;
            return true;
        }

        int kindOf(int part) {
            return part >= 0 && part < size && part < KINDS ? kinds[part] : NONE;
        }

        /** What it costs that a part is missing, NONE if it may not be. */
        int missingCost(int part) {
            return part >= 0 && part < size && part < KINDS ? missingCosts[part] : NONE;
        }

        boolean endsRow(int part) {
            return part >= 0 && part < size && part < KINDS && rowEnds[part];
        }

        int partOfKind(int kind) {
            for (int part = 0; part < size && part < KINDS; part++) {
                if (kinds[part] == kind) {
                    return part;
                }
            }
            return NONE;
        }
    }

    /** The lines with their places and alternatives. */
    private static final class Lines {
        int count = 0;
        // These two are 0 where there is no line or no place yet.
        private final int[] places = new int[MAX_LINES];
        private final int[] alternatives = new int[MAX_LINES * MAX_PLACES];
        private final int[] kinds = new int[MAX_WORDS];
        private final int[] values = new int[MAX_WORDS];
        private final int[] costs = new int[MAX_WORDS];

        void removeAll() {
            count = 0;
            for (int line = 0; line < places.length; line++) {
                places[line] = 0;
            }
            for (int i = 0; i < alternatives.length; i++) {
                alternatives[i] = 0;
            }
        }

        int placesIn(int line) {
            return line >= 0 && line < MAX_LINES ? places[line] : 0;
        }

        int alternativesAt(int line, int place) {
            boolean canBe = line >= 0 && line < MAX_LINES && place >= 0 && place < MAX_PLACES;
            return canBe ? alternatives[line * MAX_PLACES + place] : 0;
        }

        boolean isBehindNext(int line, int place) {
            return line > count || place > placesIn(line);
        }

        /** The number of the new alternative, or ROOM; the line and the place are made with it. */
        int add(int line, int place, int kind, int value, int cost) {
            int number = alternativesAt(line, place);
            int slot = slotOf(line, place, number);
            if (slot == NONE) {
                return ROOM;
            }
            kinds[slot] = kind;
            values[slot] = value;
            costs[slot] = cost;
            count = Math.max(count, line + 1);
            places[line] = Math.max(places[line], place + 1);
            alternatives[line * MAX_PLACES + place] = number + 1;
            return number;
        }

        int kindOf(int line, int place, int number) {
            int slot = slotOf(line, place, number);
            return slot == NONE ? NONE : kinds[slot];
        }

        int valueOf(int line, int place, int number) {
            int slot = slotOf(line, place, number);
            return slot == NONE ? NONE : values[slot];
        }

        int costOf(int line, int place, int number) {
            int slot = slotOf(line, place, number);
            return slot == NONE ? NONE : costs[slot];
        }

        boolean hasKind(int line, int place, int kind) {
            int start = slotOf(line, place, 0);
            if (start == NONE) {
                return false;
            }
            int many = alternativesAt(line, place);
            for (int number = 0; number < many && number < MAX_ALTERNATIVES; number++) {
                if (kinds[start + number] == kind) {
                    return true;
                }
            }
            return false;
        }

        private static int slotOf(int line, int place, int number) {
            if (line < 0 || line >= MAX_LINES || place < 0 || place >= MAX_PLACES) {
                return NONE;
            }
            if (number < 0 || number >= MAX_ALTERNATIVES) {
                return NONE;
            }
            return (line * MAX_PLACES + place) * MAX_ALTERNATIVES + number;
        }
    }

    /** What was told to fit: a street's or a code's value, and a place's value. */
    private static final class Pairs {
        private int count = 0;
        private final int[] kinds = new int[MAX_PAIRS];
        private final int[] values = new int[MAX_PAIRS];
        private final int[] others = new int[MAX_PAIRS];

        boolean holds(int kind, int value, int other) {
            for (int i = 0; i < count && i < MAX_PAIRS; i++) {
                if (kinds[i] == kind && values[i] == value && others[i] == other) {
                    return true;
                }
            }
            return false;
        }

        /** Whether the pair is new and there was room for it. */
        boolean add(int kind, int value, int other) {
            if (count >= MAX_PAIRS || holds(kind, value, other)) {
                return false;
            }
            kinds[count] = kind;
            values[count] = value;
            others[count] = other;
            count++;
            return true;
        }
    }

    /** One reading, or none. */
    private static final class Reading {
        // How many of its parts are there; NONE: this is no reading.
        int size = NONE;
        int total = NONE;
        private int choiceCount = 0;
        private final int[] choices = new int[KINDS];
        private final int[] facts = new int[KINDS * FACTS];

        void drop() {
            size = NONE;
            total = NONE;
            choiceCount = 0;
        }

        void begin(int sumOfAll) {
            size = 0;
            total = sumOfAll;
            choiceCount = 0;
        }

        /** The next part of the form takes an alternative, or is MISSING. */
        void choose(int alternative) {
            if (choiceCount < choices.length) {
                choices[choiceCount] = alternative;
                choiceCount++;
            }
        }

        /** A part more that is there; its alternative is the latest choice. */
        void addPart(int kind, int line, int place, int value) {
            if (size < 0 || size >= KINDS || choiceCount <= 0) {
                return;
            }
            int start = size * FACTS;
            facts[start] = kind;
            facts[start + 1] = line;
            facts[start + 2] = place;
            facts[start + 3] = value;
            facts[start + 4] = choices[choiceCount - 1];
            size++;
        }

        int fact(int i, int what) {
            boolean isThere = i >= 0 && i < size && what >= 0 && what < FACTS;
            return isThere ? facts[i * FACTS + what] : NONE;
        }

        /** For two readings of the same form. */
        boolean isBefore(Reading other) {
            if (total != other.total) {
                return total < other.total;
            }
            for (int part = 0; part < choiceCount && part < other.choiceCount; part++) {
                if (choices[part] != other.choices[part]) {
                    return choices[part] < other.choices[part];
                }
            }
            return false;
        }
    }

    /**
     * Looks for the two first readings. A state is a part of the form, the line that the next word
     * is taken from, and how many places of that line its row has taken. What fits is asked of two
     * parts at once, which states don't know of; so the place's value is assumed first, once for
     * each value that it can have, and then each part's cost stands by itself.
     */
    private static final class Search {
        private static final int LINE_STATES = MAX_LINES + 1, PLACE_STATES = MAX_PLACES + 1;
        private static final int STATES = (KINDS + 1) * LINE_STATES * PLACE_STATES;
        // Far above every sum.
        private static final int NO_WAY = 1000000;

        Reading first = new Reading();
        Reading second = new Reading();
        int linesReached = 0;
        private Reading candidate = new Reading();
        private boolean found = false;

        private final Form form;
        private final Lines lines;
        private final Pairs pairs;
        private final boolean[] reached = new boolean[STATES];
        // Of each state and rank: the least sum from there to the end, what the part chooses for
        // it, and the rank of the way on from the state behind.
        private final int[] sums = new int[STATES * RANKS];
        private final int[] choices = new int[STATES * RANKS];
        private final int[] ranksBehind = new int[STATES * RANKS];
        private final int[] placeValues = new int[MAX_WORDS];
        private int placeValueCount = 0;
        // NONE: the place is missing, or the form has none.
        private int assumedPlace = NONE;

        Search(Form form, Lines lines, Pairs pairs) {
            this.form = form;
            this.lines = lines;
            this.pairs = pairs;
        }

        /** To be called when the form, the lines or the pairs have changed. */
        void forget() {
            found = false;
        }

        void find() {
            if (found) {
                return;
            }
            found = true;
            first.drop();
            second.drop();
            if (form.size == 0) {
                return;
            }
            reachAll();
            listPlaceValues();
            assume(NONE);
            for (int i = 0; i < placeValueCount && i < placeValues.length; i++) {
                assume(placeValues[i]);
            }
        }

        private static int stateOf(int part, int line, int place) {
            return (part * LINE_STATES + line) * PLACE_STATES + place;
        }

        private boolean isReached(int part, int line, int place) {
            int state = stateOf(part, line, place);
            return state >= 0 && state < STATES && reached[state];
        }

        /** The state behind a part, NONE if its row ends and leaves places of its line. */
        private int stateBehind(int part, int line, int place) {
            if (!form.endsRow(part) || place == 0) {
                return stateOf(part + 1, line, place);
            }
            return place == lines.placesIn(line) ? stateOf(part + 1, line + 1, 0) : NONE;
        }

        private void reachAll() {
            for (int state = 0; state < STATES; state++) {
                reached[state] = false;
            }
            linesReached = 0;
            reached[0] = true;
            for (int part = 0; part < form.size; part++) {
                for (int line = 0; line <= lines.count; line++) {
                    for (int place = 0; place <= lines.placesIn(line); place++) {
                        if (isReached(part, line, place)) {
                            reachFrom(part, line, place);
                        }
                    }
                }
            }
        }

        private void reachFrom(int part, int line, int place) {
            if (form.missingCost(part) != NONE) {
                reach(stateBehind(part, line, place));
            }
            if (lines.hasKind(line, place, form.kindOf(part))) {
                reach(stateBehind(part, line, place + 1));
            }
        }

        private void reach(int state) {
            if (state < 0 || state >= STATES) {
                return;
            }
            reached[state] = true;
            linesReached = Math.max(linesReached, state / PLACE_STATES % LINE_STATES);
        }

        private void listPlaceValues() {
            placeValueCount = 0;
            int part = form.partOfKind(PLACE);
            if (part == NONE) {
                return;
            }
            for (int line = 0; line < lines.count; line++) {
                for (int place = 0; place < lines.placesIn(line); place++) {
                    if (isReached(part, line, place)) {
                        listPlaceValuesAt(line, place);
                    }
                }
            }
        }

        private void listPlaceValuesAt(int line, int place) {
            int many = lines.alternativesAt(line, place);
            for (int number = 0; number < many; number++) {
                if (lines.kindOf(line, place, number) == PLACE) {
                    listPlaceValue(lines.valueOf(line, place, number));
                }
            }
        }

        private void listPlaceValue(int value) {
            for (int i = 0; i < placeValueCount && i < placeValues.length; i++) {
                if (placeValues[i] == value) {
                    return;
                }
            }
            if (placeValueCount < placeValues.length) {
                placeValues[placeValueCount] = value;
                placeValueCount++;
            }
        }

        private void assume(int placeValue) {
            assumedPlace = placeValue;
            for (int part = form.size; part >= 0; part--) {
                for (int line = 0; line <= lines.count; line++) {
                    for (int place = 0; place <= lines.placesIn(line); place++) {
                        if (isReached(part, line, place)) {
                            weigh(part, line, place);
                        }
                    }
                }
            }
            for (int rank = 0; rank < RANKS; rank++) {
                if (sums[rank] != NO_WAY) {
                    trace(rank);
                    admitCandidate();
                }
            }
        }

        private void weigh(int part, int line, int place) {
            int state = stateOf(part, line, place);
            if (state < 0 || state >= STATES) {
                return;
            }
            sums[state * RANKS] = NO_WAY;
            sums[state * RANKS + 1] = NO_WAY;
            if (part == form.size) {
                sums[state * RANKS] = line == lines.count ? 0 : NO_WAY;
                return;
            }
            // The order of the offers is the order of readings with the same sum.
            int kind = form.kindOf(part);
            int many = lines.alternativesAt(line, place);
            for (int number = 0; number < many; number++) {
                if (lines.kindOf(line, place, number) == kind) {
                    int value = lines.valueOf(line, place, number);
                    if (kind != PLACE || value == assumedPlace) {
                        int cost = lines.costOf(line, place, number) + misfitCost(kind, value);
                        offer(state, number, cost, stateBehind(part, line, place + 1));
                    }
                }
            }
            int missingCost = form.missingCost(part);
            if (missingCost != NONE && (kind != PLACE || assumedPlace == NONE)) {
                offer(state, MISSING, missingCost, stateBehind(part, line, place));
            }
        }

        private int misfitCost(int kind, int value) {
            if (assumedPlace == NONE || (kind != STREET && kind != CODE)) {
                return 0;
            }
            return pairs.holds(kind, value, assumedPlace) ? 0 : MISFIT_COST;
        }

        private void offer(int state, int choice, int cost, int behind) {
            if (behind < 0 || behind >= STATES) {
                return;
            }
            for (int rank = 0; rank < RANKS; rank++) {
                int rest = sums[behind * RANKS + rank];
                if (rest != NO_WAY) {
                    keep(state, choice, cost + rest, rank);
                }
            }
        }

        /** Only a lesser sum goes before what was offered earlier. */
        private void keep(int state, int choice, int sumOfRest, int rankBehind) {
            if (state < 0 || state >= STATES) {
                return;
            }
            int best = state * RANKS;
            int next = best + 1;
            if (sumOfRest < sums[best]) {
                sums[next] = sums[best];
                choices[next] = choices[best];
                ranksBehind[next] = ranksBehind[best];
                sums[best] = sumOfRest;
                choices[best] = choice;
                ranksBehind[best] = rankBehind;
            } else if (sumOfRest < sums[next]) {
                sums[next] = sumOfRest;
                choices[next] = choice;
                ranksBehind[next] = rankBehind;
            }
        }

        private void trace(int rank) {
            if (rank < 0 || rank >= RANKS) {
                return;
            }
            candidate.begin(sums[rank]);
            int index = rank;
            int line = 0;
            int place = 0;
            for (int part = 0; part < form.size && index >= 0 && index < choices.length; part++) {
                int choice = choices[index];
                int rankBehind = ranksBehind[index];
                candidate.choose(choice);
                if (choice != MISSING) {
                    candidate.addPart(form.kindOf(part), line, place, lines.valueOf(line, place, choice));
                    place++;
                }
                if (form.endsRow(part) && place > 0) {
                    line++;
                    place = 0;
                }
                index = stateOf(part + 1, line, place) * RANKS + rankBehind;
            }
        }

        private void admitCandidate() {
            if (first.size == NONE || candidate.isBefore(first)) {
                Reading free = second;
                second = first;
                first = candidate;
                candidate = free;
            } else if (second.size == NONE || candidate.isBefore(second)) {
                Reading free = second;
                second = candidate;
                candidate = free;
            }
        }
    }
}
