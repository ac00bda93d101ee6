/** Learners that count: labelled rows of words, tables of a text, states behind signs, rules between words. */
public final class CountLearners {
    public static final int NONE = -1, BAD = -2, FULL = -3;

    private static final int WORDS = 8, LABELS = 4, SIDES = 2;
    private static final int MOST_ROUNDS = 20;
    private static final int MOST_ADDED = 3;
    private static final int ASK_TOTAL = 8, ASK_ROWS = 9;

    private final LabelledRows rows;
    private final TextTables tables;
    private final HiddenStates states;
    private final WordRules rules;

    public CountLearners() {
        rows = new LabelledRows();
        tables = new TextTables();
        states = new HiddenStates();
        rules = new WordRules();
    }

    // ---- rows

    public int row(int label) {
        if (!isLabelOrNone(label)) {
            return BAD;
        }
        if (rows.isFull()) {
            return FULL;
        }
        return rows.open(label);
    }

    public int word(int row, int w) {
        if (!rows.has(row) || !isWord(w)) {
            return BAD;
        }
        if (rows.isFullRow(row)) {
            return FULL;
        }
        return rows.append(row, w);
    }

    public int label(int row, int label) {
        if (!rows.has(row) || !isLabelOrNone(label)) {
            return BAD;
        }
        return rows.relabel(row, label);
    }

    public int addition(int up, int down) {
        if (!isWithin(up, 0, MOST_ADDED) || !isWithin(down, 1, MOST_ADDED)) {
            return BAD;
        }
        rows.setAddition(up, down);
        return 1;
    }

    public int counted(int label, int what) {
        if (!isLabel(label)) {
            return BAD;
        }
        if (isWord(what)) {
            return rows.timesIn(label, what);
        }
        if (what == ASK_TOTAL) {
            return rows.wordsIn(label);
        }
        return what == ASK_ROWS ? rows.rowsIn(label) : BAD;
    }

    public long share(int label, int w, int side) throws ArithmeticException {
        if (!isLabel(label) || !isWord(w) || !isSide(side)) {
            return BAD;
        }
        long lower = rows.shareLower(label);
        if (lower == 0) {
            throw new ArithmeticException("the label has no shares");
        }
        return Fractions.sideOf(rows.shareUpper(label, w), lower, side);
    }

    public long weight(int row, int label, int side) {
        if (!rows.has(row) || !isLabel(label) || !isSide(side)) {
            return BAD;
        }
        return Fractions.sideOf(rows.weightUpper(row, label), rows.weightLower(row, label), side);
    }

    public int best(int row) {
        return rows.has(row) ? rows.bestLabel(row) : BAD;
    }

    public int rounds(int n) {
        if (!isWithin(n, 1, MOST_ROUNDS)) {
            return BAD;
        }
        int done = 0;
        boolean changed = true;
        while (changed && done < n) {
            changed = rows.guessAnew();
            done++;
        }
        return done;
    }

    public int guess(int row) {
        return rows.has(row) ? rows.guessOf(row) : BAD;
    }

    // ---- the text

    public int text(int w) {
        if (!isWord(w)) {
            return BAD;
        }
        if (tables.isFull()) {
            return FULL;
        }
        return tables.append(w);
    }

    public long next(int t, int u, int w, int side) {
        if (!isTable(t, u) || !isWord(w) || !isSide(side)) {
            return BAD;
        }
        tables.fill(t, u);
        return Fractions.sideOf(tables.upperOf(w), tables.lowerOfAll(), side);
    }

    public int likely(int t, int u) {
        if (!isTable(t, u)) {
            return BAD;
        }
        tables.fill(t, u);
        return tables.greatest();
    }

    // ---- states

    public int weigh(int what, int i, int j, int v) {
        int place = HiddenStates.placeOf(what, i, j);
        if (place == NONE || !isWithin(v, NONE, HiddenStates.MOST_WEIGHT)) {
            return BAD;
        }
        return states.reweigh(place, v);
    }

    public int sign(int row, int s) {
        if (!HiddenStates.isRow(row) || !HiddenStates.isSign(s)) {
            return BAD;
        }
        if (states.isFullRow(row)) {
            return FULL;
        }
        return states.append(row, s);
    }

    public int path(int row, int i) {
        if (!HiddenStates.isRow(row)) {
            return BAD;
        }
        if (!states.hasPlace(row, i) || !states.findBestPath(row)) {
            return NONE;
        }
        return states.stateOnBestPath(i);
    }

    public long total(int row) {
        return HiddenStates.isRow(row) ? states.totalOf(row) : BAD;
    }

    public long at(int row, int i, int state, int side) throws ArithmeticException {
        if (!HiddenStates.isRow(row) || !states.hasPlace(row, i)) {
            return BAD;
        }
        if (!HiddenStates.isState(state) || !isSide(side)) {
            return BAD;
        }
        long whole = states.totalOf(row);
        if (whole == 0) {
            throw new ArithmeticException("all paths of the sign row weigh nothing");
        }
        return Fractions.sideOf(states.totalThrough(row, i, state), whole, side);
    }

    public int learn(int n) {
        if (!isWithin(n, 1, MOST_ROUNDS)) {
            return BAD;
        }
        int done = 0;
        boolean changed = true;
        while (changed && done < n) {
            changed = states.weighAnew();
            done++;
        }
        return done;
    }

    // ---- rules

    public int rule(int i, int what) {
        if (!isWithin(what, WordRules.ASK_FROM, WordRules.ASK_LOWER)) {
            return BAD;
        }
        rules.gather(rows);
        return rules.has(i) ? rules.partOf(i, what) : NONE;
    }

    public int count(int what) {
        switch (what) {
            case 0:
                return rows.size();
            case 1:
                return rows.labelledRows();
            case 2:
                return tables.length();
            case 3:
                rules.gather(rows);
                return rules.size();
            case 4:
                return states.signsOfAll();
            default:
                return BAD;
        }
    }

    // ---- what numbers may be

    private static boolean isWithin(int number, int least, int most) {
        return number >= least && number <= most;
    }

    private static boolean isWord(int w) {
        return isWithin(w, 0, WORDS - 1);
    }

    private static boolean isLabel(int label) {
        return isWithin(label, 0, LABELS - 1);
    }

    private static boolean isLabelOrNone(int label) {
        return label == NONE || isLabel(label);
    }

    private static boolean isSide(int side) {
        return isWithin(side, 0, SIDES - 1);
    }

    private static boolean isTable(int t, int u) {
        if (u == NONE) {
            return t == NONE;
        }
        return isWord(u) && (t == NONE || isWord(t));
    }

    private static void setAll(int[] numbers, int value) {
        for (int i = 0; i < numbers.length; i++) {
            numbers[i] = value;
        }
    }

    /** Exact fractions of numbers that are not below 0. */
    private static final class Fractions {
        // Euclid's steps on two longs stay below a hundred.
        private static final int MOST_STEPS = 200;

        static long sideOf(long upper, long lower, int side) {
            if (upper <= 0 || lower <= 0) {
                return side == 0 ? 0 : 1;
            }
            long divisor = commonDivisor(upper, lower);
            if (divisor <= 0) {
                return side == 0 ? upper : lower;
            }
            return (side == 0 ? upper : lower) / divisor;
        }

        private static long commonDivisor(long a, long b) {
            long greater = a;
            long lesser = b;
            for (int step = 0; step < MOST_STEPS && lesser != 0; step++) {
                long rest = greater % lesser;
                greater = lesser;
                lesser = rest;
            }
            return greater;
        }

        /**
         * Whether a / b is above c / d. The products across would leave a long, so the whole parts are
         * compared, and then the rests turned over, which swaps the two sides.
         */
        static boolean isAbove(long a, long b, long c, long d) {
            long upper = a;
            long lower = b;
            long otherUpper = c;
            long otherLower = d;
            for (int step = 0; step < MOST_STEPS && lower > 0 && otherLower > 0; step++) {
                long whole = upper / lower;
                long otherWhole = otherUpper / otherLower;
                if (whole != otherWhole) {
                    return whole > otherWhole;
                }
                long rest = upper % lower;
                long otherRest = otherUpper % otherLower;
                if (rest == 0 || otherRest == 0) {
                    return rest > otherRest;
                }
                upper = otherLower;
                otherUpper = lower;
                lower = otherRest;
                otherLower = rest;
            }
            return false;
        }
    }

    /** Section 1: rows of words with labels and guesses; the counts always fit the rows as they are. */
    private static final class LabelledRows {
        private static final int MOST_ROWS = 40, MOST_WORDS = 6;

        private final int[] labels = new int[MOST_ROWS];
        private final int[] guesses = new int[MOST_ROWS];
        private final int[] lengths = new int[MOST_ROWS];
        private final int[] words = new int[MOST_ROWS * MOST_WORDS];
        private final int[] times = new int[LABELS * WORDS];
        private final int[] totals = new int[LABELS];
        private final int[] sizes = new int[LABELS];
        private int rowCount = 0;
        private int addedUp = 1;
        private int addedDown = 1;

        boolean has(int row) {
            return row >= 0 && row < rowCount;
        }

        boolean isFull() {
            return rowCount >= MOST_ROWS;
        }

        boolean isFullRow(int row) {
            return lengths[row] >= MOST_WORDS;
        }

        int size() {
            return rowCount;
        }

        int labelledRows() {
            int found = 0;
            for (int row = 0; row < rowCount; row++) {
                if (labels[row] != NONE) {
                    found++;
                }
            }
            return found;
        }

        int open(int label) {
            int row = rowCount;
            labels[row] = label;
            rowCount++;
            startAnew();
            return row;
        }

        int append(int row, int w) {
            words[row * MOST_WORDS + lengths[row]] = w;
            lengths[row]++;
            startAnew();
            return lengths[row];
        }

        int relabel(int row, int label) {
            int before = labels[row];
            labels[row] = label;
            startAnew();
            return before;
        }

        void setAddition(int up, int down) {
            addedUp = up;
            addedDown = down;
            startAnew();
        }

        int timesIn(int label, int w) {
            return times[label * WORDS + w];
        }

        int wordsIn(int label) {
            return totals[label];
        }

        int rowsIn(int label) {
            return sizes[label];
        }

        int guessOf(int row) {
            return guesses[row];
        }

        /** The words of a row as bits. */
        int wordSet(int row) {
            int set = 0;
            for (int i = 0; i < lengths[row]; i++) {
                set |= 1 << words[row * MOST_WORDS + i];
            }
            return set;
        }

        // A share is told over both sides times the addition's lower number, so that it stays whole.
        long shareUpper(int label, int w) {
            return (long) timesIn(label, w) * addedDown + addedUp;
        }

        /** 0, if the label has no shares. */
        long shareLower(int label) {
            return (long) totals[label] * addedDown + (long) WORDS * addedUp;
        }

        // 40 rows and six shares by at most 744 each stay within a long, so nothing is lost before the
        // fraction is brought to least terms. A share that is none has 0 above, and so has the weight.
        long weightUpper(int row, int label) {
            long product = sizes[label];
            for (int i = 0; i < lengths[row]; i++) {
                product *= shareUpper(label, words[row * MOST_WORDS + i]);
            }
            return product;
        }

        long weightLower(int row, int label) {
            long product = 1;
            for (int i = 0; i < lengths[row]; i++) {
                product *= shareLower(label);
            }
            return product;
        }

        int bestLabel(int row) {
            int best = NONE;
            long bestUpper = 0;
            long bestLower = 1;
            for (int label = 0; label < LABELS; label++) {
                long upper = weightUpper(row, label);
                long lower = weightLower(row, label);
                if (upper > 0 && Fractions.isAbove(upper, lower, bestUpper, bestLower)) {
                    best = label;
                    bestUpper = upper;
                    bestLower = lower;
                }
            }
            return best;
        }

        /** One round; whether it changed a guess. The counts stay as before until all rows have theirs. */
        boolean guessAnew() {
            boolean changed = false;
            for (int row = 0; row < rowCount; row++) {
                if (labels[row] == NONE) {
                    int found = bestLabel(row);
                    changed = changed || found != guesses[row];
                    guesses[row] = found;
                }
            }
            tally();
            return changed;
        }

        private void startAnew() {
            setAll(guesses, NONE);
            tally();
        }

        private void tally() {
            setAll(times, 0);
            setAll(totals, 0);
            setAll(sizes, 0);
            for (int row = 0; row < rowCount; row++) {
                int label = labels[row] == NONE ? guesses[row] : labels[row];
                if (label != NONE) {
                    tallyRow(row, label);
                }
            }
        }

        private void tallyRow(int row, int label) {
            sizes[label]++;
            totals[label] += lengths[row];
            for (int i = 0; i < lengths[row]; i++) {
                times[label * WORDS + words[row * MOST_WORDS + i]]++;
            }
        }
    }

    /** Section 2: the text, and one table of it at a time, whose shares all stand over one lower number. */
    private static final class TextTables {
        private static final int MOST_TEXT = 60;

        private final int[] text = new int[MOST_TEXT];
        private final int[] behind = new int[WORDS];
        private final long[] uppers = new long[WORDS];
        private long lower = 1;
        private int textLength = 0;

        boolean isFull() {
            return textLength >= MOST_TEXT;
        }

        int length() {
            return textLength;
        }

        int append(int w) {
            text[textLength] = w;
            textLength++;
            return textLength;
        }

        long upperOf(int w) {
            return uppers[w];
        }

        long lowerOfAll() {
            return lower;
        }

        int greatest() {
            int found = 0;
            for (int w = 1; w < WORDS; w++) {
                if (uppers[w] > uppers[found]) {
                    found = w;
                }
            }
            return found;
        }

        /** Makes the table behind t, u; behind u, if t is NONE; the first one, if both are. */
        void fill(int t, int u) {
            fillFirst();
            if (u != NONE) {
                countBehind(NONE, u);
                putAbove();
            }
            if (t != NONE) {
                countBehind(t, u);
                putAbove();
            }
        }

        private void fillFirst() {
            for (int w = 0; w < WORDS; w++) {
                uppers[w] = 1;
            }
            for (int i = 0; i < textLength; i++) {
                uppers[text[i]]++;
            }
            lower = textLength + WORDS;
        }

        private void countBehind(int t, int u) {
            setAll(behind, 0);
            for (int i = 1; i < textLength; i++) {
                if (text[i - 1] == u && (t == NONE || i >= 2 && text[i - 2] == t)) {
                    behind[text[i]]++;
                }
            }
        }

        /** Turns the table below into the one of the words that were counted. */
        private void putAbove() {
            int all = 0;
            int different = 0;
            long unmet = 0;
            for (int w = 0; w < WORDS; w++) {
                all += behind[w];
                different += behind[w] > 0 ? 1 : 0;
                unmet += behind[w] > 0 ? 0 : uppers[w];
            }
            if (all == 0) {
                return;
            }
            if (different == WORDS) {
                takeCounts(all);
            } else {
                handDown(all, different, unmet);
            }
        }

        private void takeCounts(int all) {
            for (int w = 0; w < WORDS; w++) {
                uppers[w] = behind[w];
            }
            lower = all;
        }

        // A share below by the sum of unmet ones loses the lower number of the table below, so 2 * all
        // times that sum is one lower number for all words.
        private void handDown(int all, int different, long unmet) {
            for (int w = 0; w < WORDS; w++) {
                if (behind[w] > 0) {
                    uppers[w] = (2L * behind[w] - 1) * unmet;
                } else {
                    uppers[w] = different * uppers[w];
                }
            }
            lower = 2L * all * unmet;
        }
    }

    /** Section 3: weights of states, moves and shows, and the sign rows. */
    private static final class HiddenStates {
        static final int MOST_WEIGHT = 21;

        private static final int STATES = 4, SIGNS = 4, ROWS = 4, MOST_SIGNS = 5;
        private static final int MOVES_FROM = STATES;
        private static final int SHOWS_FROM = MOVES_FROM + STATES * STATES;
        private static final int ALL_WEIGHTS = SHOWS_FROM + STATES * SIGNS;

        private final int[] weights = new int[ALL_WEIGHTS];
        private final int[] freshWeights = new int[ALL_WEIGHTS];
        private final int[] signs = new int[ROWS * MOST_SIGNS];
        private final int[] lengths = new int[ROWS];
        private final long[] sums = new long[STATES];
        private final long[] nextSums = new long[STATES];
        private final long[] bestFrom = new long[MOST_SIGNS * STATES];
        private final int[] bestPath = new int[MOST_SIGNS];

        HiddenStates() {
            setAll(weights, 1);
        }

        static boolean isRow(int row) {
            return row >= 0 && row < ROWS;
        }

        static boolean isSign(int s) {
            return s >= 0 && s < SIGNS;
        }

        static boolean isState(int state) {
            return state >= 0 && state < STATES;
        }

        /** Where a weight stands, NONE if there is no such one. */
        static int placeOf(int what, int i, int j) {
            if (!isState(i)) {
                return NONE;
            }
            if (what == 0) {
                return i;
            }
            if (what == 1 && isState(j)) {
                return moveAt(i, j);
            }
            return what == 2 && isSign(j) ? showAt(i, j) : NONE;
        }

        private static int moveAt(int from, int to) {
            return MOVES_FROM + from * STATES + to;
        }

        private static int showAt(int state, int s) {
            return SHOWS_FROM + state * SIGNS + s;
        }

        int reweigh(int place, int v) {
            int before = weights[place];
            if (v != NONE) {
                weights[place] = v;
            }
            return before;
        }

        boolean isFullRow(int row) {
            return lengths[row] >= MOST_SIGNS;
        }

        boolean hasPlace(int row, int i) {
            return i >= 0 && i < lengths[row];
        }

        int append(int row, int s) {
            signs[row * MOST_SIGNS + lengths[row]] = s;
            lengths[row]++;
            return lengths[row];
        }

        int signsOfAll() {
            int found = 0;
            for (int row = 0; row < ROWS; row++) {
                found += lengths[row];
            }
            return found;
        }

        long totalOf(int row) {
            return totalThrough(row, NONE, NONE);
        }

        /** What the paths with the state at the place weigh together; all paths, if the place is NONE. */
        long totalThrough(int row, int place, int state) {
            if (lengths[row] == 0) {
                return 0;
            }
            for (int s = 0; s < STATES; s++) {
                sums[s] = place == 0 && s != state ? 0 : (long) weights[s] * shown(row, 0, s);
            }
            for (int i = 1; i < lengths[row]; i++) {
                for (int s = 0; s < STATES; s++) {
                    nextSums[s] = place == i && s != state ? 0 : sumInto(s) * shown(row, i, s);
                }
                for (int s = 0; s < STATES; s++) {
                    sums[s] = nextSums[s];
                }
            }
            long whole = 0;
            for (int s = 0; s < STATES; s++) {
                whole += sums[s];
            }
            return whole;
        }

        private long sumInto(int to) {
            long sum = 0;
            for (int from = 0; from < STATES; from++) {
                sum += sums[from] * weights[moveAt(from, to)];
            }
            return sum;
        }

        private int shown(int row, int i, int state) {
            return weights[showAt(state, signs[row * MOST_SIGNS + i])];
        }

        /**
         * Puts the best path of a row into bestPath; false, if there is none. What is best from each place
         * on is found from the end, so that the way from the start can take the least state of like ones.
         */
        boolean findBestPath(int row) {
            int length = lengths[row];
            if (length == 0) {
                return false;
            }
            for (int i = length - 1; i >= 0; i--) {
                for (int s = 0; s < STATES; s++) {
                    long rest = i == length - 1 ? 1 : weightOnward(i, s, bestOnward(i, s));
                    bestFrom[i * STATES + s] = shown(row, i, s) * rest;
                }
            }
            int first = bestStart();
            bestPath[0] = first;
            for (int i = 1; i < length; i++) {
                bestPath[i] = bestOnward(i - 1, bestPath[i - 1]);
            }
            return weights[first] * bestFrom[first] > 0;
        }

        int stateOnBestPath(int i) {
            return bestPath[i];
        }

        private int bestStart() {
            int best = 0;
            for (int s = 1; s < STATES; s++) {
                if (weights[s] * bestFrom[s] > weights[best] * bestFrom[best]) {
                    best = s;
                }
            }
            return best;
        }

        private int bestOnward(int i, int from) {
            int best = 0;
            for (int to = 1; to < STATES; to++) {
                if (weightOnward(i, from, to) > weightOnward(i, from, best)) {
                    best = to;
                }
            }
            return best;
        }

        /** What the best path weighs that goes from a state at place i to another, without place i's show. */
        private long weightOnward(int i, int from, int to) {
            return weights[moveAt(from, to)] * bestFrom[(i + 1) * STATES + to];
        }

        /** One round; whether it changed a weight. */
        boolean weighAnew() {
            setAll(freshWeights, 1);
            for (int row = 0; row < ROWS; row++) {
                if (findBestPath(row)) {
                    countBestPath(row);
                }
            }
            boolean changed = false;
            for (int i = 0; i < ALL_WEIGHTS; i++) {
                changed = changed || weights[i] != freshWeights[i];
                weights[i] = freshWeights[i];
            }
            return changed;
        }

        private void countBestPath(int row) {
            freshWeights[bestPath[0]]++;
            for (int i = 0; i < lengths[row]; i++) {
                freshWeights[showAt(bestPath[i], signs[row * MOST_SIGNS + i])]++;
                if (i > 0) {
                    freshWeights[moveAt(bestPath[i - 1], bestPath[i])]++;
                }
            }
        }
    }

    /** Section 4: the rules between words of the rows, in order. */
    private static final class WordRules {
        static final int ASK_FROM = 0, ASK_LOWER = 4;

        private static final int ASK_TO = 1, ASK_SUPPORT = 2;
        private static final int PAIRS = WORDS * WORDS;
        private static final int MOST_RULES = WORDS * (WORDS - 1);
        // No count of rows reaches it, so that counts are digits of a key.
        private static final int BEYOND_ROWS = 64;

        private final int[] support = new int[PAIRS];
        private final int[] having = new int[WORDS];
        private final int[] keys = new int[MOST_RULES];
        private int ruleCount = 0;

        boolean has(int i) {
            return i >= 0 && i < ruleCount;
        }

        int size() {
            return ruleCount;
        }

        int partOf(int i, int what) {
            int pair = keys[i] % PAIRS;
            int from = pair / WORDS;
            if (what == ASK_FROM) {
                return from;
            }
            if (what == ASK_TO) {
                return pair % WORDS;
            }
            if (what == ASK_SUPPORT) {
                return support[pair];
            }
            return (int) Fractions.sideOf(support[pair], having[from], what == ASK_LOWER ? 1 : 0);
        }

        void gather(LabelledRows rows) {
            setAll(support, 0);
            setAll(having, 0);
            for (int row = 0; row < rows.size(); row++) {
                countSet(rows.wordSet(row));
            }
            ruleCount = 0;
            for (int pair = 0; pair < PAIRS; pair++) {
                if (support[pair] > 0) {
                    insert(keyOf(pair));
                }
            }
        }

        private void countSet(int set) {
            for (int w = 0; w < WORDS; w++) {
                if ((set >> w & 1) != 0) {
                    having[w]++;
                    countPairs(w, set);
                }
            }
        }

        private void countPairs(int w, int set) {
            for (int v = 0; v < WORDS; v++) {
                if (v != w && (set >> v & 1) != 0) {
                    support[w * WORDS + v]++;
                }
            }
        }

        // The lesser key stands first. Of like support the greater confidence is that of fewer rows with w.
        private int keyOf(int pair) {
            int fewer = BEYOND_ROWS - support[pair];
            return (fewer * BEYOND_ROWS + having[pair / WORDS]) * PAIRS + pair;
        }

        private void insert(int key) {
            if (ruleCount >= MOST_RULES) {
                return;
            }
            int place = ruleCount;
            while (place > 0 && keys[place - 1] > key) {
                keys[place] = keys[place - 1];
                place--;
            }
            keys[place] = key;
            ruleCount++;
        }
    }
}
