import java.math.BigInteger;
import java.util.ArrayList;
import java.util.Arrays;
import java.util.List;
import java.util.Random;

/**
 * Long runs of seeded calls, each answer beside that of a slow model which follows the document's words:
 * fractions of BigInteger, all paths one by one, rules sorted by fractions.
 */
public final class RandomRunsTest {
    private static final int NONE = CountLearners.NONE, BAD = CountLearners.BAD, FULL = CountLearners.FULL;
    private static final String[] CALLS = Calls.NAMES;
    // How often each call comes, in the order of CALLS, for several kinds of runs.
    private static final int[][] MIXES = {
        {4, 12, 2, 1, 2, 2, 2, 2, 1, 2, 6, 6, 2, 4, 2, 2, 2, 3, 1, 3, 1},
        {8, 40, 2, 1, 2, 2, 6, 6, 3, 4, 0, 0, 0, 0, 0, 0, 0, 0, 0, 4, 1},
        {4, 10, 1, 2, 4, 4, 8, 8, 4, 6, 0, 0, 0, 0, 0, 0, 0, 0, 0, 6, 1},
        {0, 0, 0, 0, 0, 0, 0, 0, 0, 0, 4, 20, 5, 0, 0, 0, 0, 0, 0, 0, 1},
        {0, 0, 0, 0, 0, 0, 0, 0, 0, 0, 0, 0, 0, 14, 2, 6, 4, 8, 1, 0, 1},
        {0, 0, 0, 0, 0, 0, 0, 0, 0, 0, 0, 0, 0, 3, 4, 6, 2, 2, 4, 0, 1},
    };
    private static final int RUNS = 240, CALLS_IN_RUN = 512;

    public static void main(String[] args) {
        for (int run = 0; run < RUNS && Check.isRight(); run++) {
            oneRun(run);
        }
        Check.end();
    }

    private static void oneRun(int run) {
        Random random = new Random(run);
        int[] mix = MIXES[run % MIXES.length];
        int words = 1 + random.nextInt(8);
        int far = random.nextInt(3) == 0 ? 4 : 60;
        CountLearners x = new CountLearners();
        Model model = new Model();
        for (int i = 0; i < CALLS_IN_RUN && Check.isRight(); i++) {
            int call = pick(random, mix);
            int[] a = arguments(random, call, words, far, model);
            String told = "run " + run + ", call " + i + ": " + Calls.told(CALLS[call], a);
            Check.due(told, Calls.ask(x, CALLS[call], a), model.asked(call, a));
        }
    }

    private static int pick(Random random, int[] mix) {
        int left = random.nextInt(Arrays.stream(mix).sum());
        int call = 0;
        while (left >= mix[call]) {
            left -= mix[call];
            call++;
        }
        return call;
    }

    private static int[] arguments(Random random, int call, int words, int far, Model model) {
        int label = random.nextInt(5) - 1;
        int row = random.nextInt(model.rows.size() + 1);
        if (random.nextInt(3) == 0) {
            row = model.rows.size() - 1;
        }
        int w = random.nextInt(words);
        int side = random.nextInt(2);
        int u = random.nextInt(words + 1) - 1;
        int t = u == NONE && random.nextInt(9) > 0 ? NONE : random.nextInt(words + 1) - 1;
        int s = random.nextInt(4);
        int v = random.nextInt(4) == 0 ? 0 : random.nextInt(23) - 1;
        int n = 1 + random.nextInt(20);
        int i = random.nextInt(6);
        int[][] all = {
            {label}, {row, w}, {row, label}, {random.nextInt(4), 1 + random.nextInt(3)},
            {random.nextInt(4), random.nextInt(10)}, {random.nextInt(4), random.nextInt(8), side},
            {row, random.nextInt(4), side}, {row}, {n}, {row}, {w}, {t, u, random.nextInt(8), side}, {t, u},
            {random.nextInt(3), random.nextInt(4), random.nextInt(4), v}, {random.nextInt(4), s},
            {random.nextInt(4), i}, {random.nextInt(4)}, {random.nextInt(4), i, random.nextInt(4), side}, {n},
            {random.nextInt(random.nextInt(57) + 1), random.nextInt(5)}, {random.nextInt(5)}
        };
        int[] a = all[call];
        if (random.nextInt(far) == 0) {
            int[] odd = {-3, -2, -1, 0, 3, 4, 5, 7, 8, 9, 10, 20, 21, 22, 40, Integer.MIN_VALUE, Integer.MAX_VALUE};
            a[random.nextInt(a.length)] = odd[random.nextInt(odd.length)];
        }
        return a;
    }

    /** A fraction in least terms. */
    private record Part(BigInteger upper, BigInteger lower) implements Comparable<Part> {
        static Part of(long upper, long lower) {
            return of(BigInteger.valueOf(upper), BigInteger.valueOf(lower));
        }

        static Part of(BigInteger upper, BigInteger lower) {
            BigInteger divisor = upper.gcd(lower);
            return new Part(upper.divide(divisor), lower.divide(divisor));
        }

        Part plus(Part other) {
            return of(upper.multiply(other.lower).add(other.upper.multiply(lower)), lower.multiply(other.lower));
        }

        Part times(Part other) {
            return of(upper.multiply(other.upper), lower.multiply(other.lower));
        }

        Part by(Part other) {
            return of(upper.multiply(other.lower), lower.multiply(other.upper));
        }

        boolean isNothing() {
            return upper.signum() == 0;
        }

        long side(int side) {
            return (side == 0 ? upper : lower).longValueExact();
        }

        @Override
        public int compareTo(Part other) {
            return upper.multiply(other.lower).compareTo(other.upper.multiply(lower));
        }
    }

    private record Rule(int w, int v, int support, Part confidence) {
    }

    private static final class Row {
        final List<Integer> words = new ArrayList<>();
        int label = NONE;
        int guess = NONE;

        int counts() {
            return label != NONE ? label : guess;
        }
    }

    private static final class Model {
        final List<Row> rows = new ArrayList<>();
        private final List<Integer> text = new ArrayList<>();
        private final List<List<Integer>> signs = new ArrayList<>();
        private Part added = Part.of(1, 1);
        private int[][][] weights = ones();

        Model() {
            for (int i = 0; i < 4; i++) {
                signs.add(new ArrayList<>());
            }
        }

        private static int[][][] ones() {
            int[][][] all = {new int[4][1], new int[4][4], new int[4][4]};
            for (int[][] kind : all) {
                for (int[] line : kind) {
                    Arrays.fill(line, 1);
                }
            }
            return all;
        }

        private static boolean in(int number, int least, int most) {
            return least <= number && number <= most;
        }

        private boolean isRow(int row) {
            return in(row, 0, rows.size() - 1);
        }

        long asked(int call, int[] a) {
            switch (CALLS[call]) {
                case "row": return row(a[0]);
                case "word": return word(a[0], a[1]);
                case "label": return label(a[0], a[1]);
                case "addition": return addition(a[0], a[1]);
                case "counted": return counted(a[0], a[1]);
                case "share": return share(a[0], a[1], a[2]);
                case "weight": return isRow(a[0]) && in(a[1], 0, 3) && in(a[2], 0, 1)
                    ? weightOf(rows.get(a[0]), a[1]).side(a[2]) : BAD;
                case "best": return isRow(a[0]) ? bestOf(rows.get(a[0])) : BAD;
                case "rounds": return rounds(a[0]);
                case "guess": return isRow(a[0]) ? rows.get(a[0]).guess : BAD;
                case "text": return text(a[0]);
                case "next": return isTable(a[0], a[1]) && in(a[2], 0, 7) && in(a[3], 0, 1)
                    ? table(a[0], a[1])[a[2]].side(a[3]) : BAD;
                case "likely": return likely(a[0], a[1]);
                case "weigh": return weigh(a[0], a[1], a[2], a[3]);
                case "sign": return sign(a[0], a[1]);
                case "path": return path(a[0], a[1]);
                case "total": return in(a[0], 0, 3) ? totalOf(a[0], NONE, NONE) : BAD;
                case "at": return at(a[0], a[1], a[2], a[3]);
                case "learn": return learn(a[0]);
                case "rule": return rule(a[0], a[1]);
                default: return count(a[0]);
            }
        }

        private void forget() {
            for (Row row : rows) {
                row.guess = NONE;
            }
        }

        private long row(int label) {
            if (!in(label, -1, 3)) {
                return BAD;
            }
            if (rows.size() == 40) {
                return FULL;
            }
            Row row = new Row();
            row.label = label;
            rows.add(row);
            forget();
            return rows.size() - 1;
        }

        private long word(int row, int w) {
            if (!isRow(row) || !in(w, 0, 7)) {
                return BAD;
            }
            if (rows.get(row).words.size() == 6) {
                return FULL;
            }
            rows.get(row).words.add(w);
            forget();
            return rows.get(row).words.size();
        }

        private long label(int row, int label) {
            if (!isRow(row) || !in(label, -1, 3)) {
                return BAD;
            }
            int before = rows.get(row).label;
            rows.get(row).label = label;
            forget();
            return before;
        }

        private long addition(int up, int down) {
            if (!in(up, 0, 3) || !in(down, 1, 3)) {
                return BAD;
            }
            added = Part.of(up, down);
            forget();
            return 1;
        }

        private long counted(int label, int what) {
            if (!in(label, 0, 3) || !in(what, 0, 9)) {
                return BAD;
            }
            long found = 0;
            for (Row row : rows) {
                if (row.counts() == label) {
                    found += what == 9 ? 1
                        : what == 8 ? row.words.size()
                        : row.words.stream().filter(w -> w == what).count();
                }
            }
            return found;
        }

        /** null, if there is none. */
        private Part shareOf(int label, int w) {
            Part below = Part.of(counted(label, 8), 1).plus(Part.of(8, 1).times(added));
            return below.isNothing() ? null : Part.of(counted(label, w), 1).plus(added).by(below);
        }

        private long share(int label, int w, int side) {
            if (!in(label, 0, 3) || !in(w, 0, 7) || !in(side, 0, 1)) {
                return BAD;
            }
            Part share = shareOf(label, w);
            return share == null ? Check.THROWS : share.side(side);
        }

        private Part weightOf(Row row, int label) {
            Part weight = Part.of(counted(label, 9), 1);
            for (int w : row.words) {
                Part share = shareOf(label, w);
                weight = weight.times(share == null ? Part.of(0, 1) : share);
            }
            return weight;
        }

        private int bestOf(Row row) {
            int best = NONE;
            Part greatest = Part.of(0, 1);
            for (int label = 0; label < 4; label++) {
                Part weight = weightOf(row, label);
                if (weight.compareTo(greatest) > 0) {
                    best = label;
                    greatest = weight;
                }
            }
            return best;
        }

        private long rounds(int n) {
            if (!in(n, 1, 20)) {
                return BAD;
            }
            for (int done = 1; done <= n; done++) {
                List<Integer> found = new ArrayList<>();
                for (Row row : rows) {
                    found.add(row.label == NONE ? bestOf(row) : NONE);
                }
                boolean changed = false;
                for (int i = 0; i < rows.size(); i++) {
                    changed |= rows.get(i).guess != found.get(i);
                    rows.get(i).guess = found.get(i);
                }
                if (!changed) {
                    return done;
                }
            }
            return n;
        }

        private long text(int w) {
            if (!in(w, 0, 7)) {
                return BAD;
            }
            if (text.size() == 60) {
                return FULL;
            }
            text.add(w);
            return text.size();
        }

        private static boolean isTable(int t, int u) {
            return in(t, -1, 7) && in(u, -1, 7) && (u != NONE || t == NONE);
        }

        private Part[] table(int t, int u) {
            Part[] shares = new Part[8];
            if (u == NONE) {
                for (int w = 0; w < 8; w++) {
                    int word = w;
                    shares[w] = Part.of(text.stream().filter(x -> x == word).count() + 1, text.size() + 8);
                }
                return shares;
            }
            Part[] below = t == NONE ? table(NONE, NONE) : table(NONE, u);
            List<Integer> ahead = t == NONE ? List.of(u) : List.of(t, u);
            int[] n = new int[8];
            for (int i = 0; i + ahead.size() < text.size(); i++) {
                if (text.subList(i, i + ahead.size()).equals(ahead)) {
                    n[text.get(i + ahead.size())]++;
                }
            }
            int c = Arrays.stream(n).sum();
            long k = Arrays.stream(n).filter(x -> x > 0).count();
            Part unmet = Part.of(0, 1);
            for (int w = 0; w < 8; w++) {
                unmet = n[w] == 0 ? unmet.plus(below[w]) : unmet;
            }
            Part sum = Part.of(0, 1);
            for (int w = 0; w < 8; w++) {
                if (c == 0) {
                    shares[w] = below[w];
                } else if (k == 8) {
                    shares[w] = Part.of(n[w], c);
                } else if (n[w] > 0) {
                    shares[w] = Part.of(2 * n[w] - 1, 2 * c);
                } else {
                    shares[w] = Part.of(k, 2 * c).times(below[w]).by(unmet);
                }
                sum = sum.plus(shares[w]);
            }
            Check.isTrue("the table sums to one", sum.equals(Part.of(1, 1)));
            return shares;
        }

        private long likely(int t, int u) {
            if (!isTable(t, u)) {
                return BAD;
            }
            Part[] shares = table(t, u);
            int best = 0;
            for (int w = 1; w < 8; w++) {
                best = shares[w].compareTo(shares[best]) > 0 ? w : best;
            }
            return best;
        }

        private long weigh(int what, int i, int j, int v) {
            if (!in(what, 0, 2) || !in(i, 0, 3) || what > 0 && !in(j, 0, 3) || !in(v, -1, 21)) {
                return BAD;
            }
            int place = what == 0 ? 0 : j;
            int before = weights[what][i][place];
            weights[what][i][place] = v == NONE ? before : v;
            return before;
        }

        private long sign(int row, int s) {
            if (!in(row, 0, 3) || !in(s, 0, 3)) {
                return BAD;
            }
            if (signs.get(row).size() == 5) {
                return FULL;
            }
            signs.get(row).add(s);
            return signs.get(row).size();
        }

        /** The number-th path of some length; the first place is the greatest digit, so order is by places. */
        private static int[] pathOf(int number, int length) {
            int[] path = new int[length];
            for (int i = length - 1, left = number; i >= 0; i--, left /= 4) {
                path[i] = left % 4;
            }
            return path;
        }

        private long weightOf(int row, int[] path) {
            long weight = weights[0][path[0]][0];
            for (int i = 0; i < path.length; i++) {
                weight *= weights[2][path[i]][signs.get(row).get(i)];
                weight *= i == 0 ? 1 : weights[1][path[i - 1]][path[i]];
            }
            return weight;
        }

        private long totalOf(int row, int place, int state) {
            int length = signs.get(row).size();
            long total = 0;
            for (int number = 0; length > 0 && number < 1 << 2 * length; number++) {
                int[] path = pathOf(number, length);
                total += place == NONE || path[place] == state ? weightOf(row, path) : 0;
            }
            return total;
        }

        /** null, if there is none. */
        private int[] bestPath(int row) {
            int length = signs.get(row).size();
            int[] best = null;
            long most = 0;
            for (int number = 0; length > 0 && number < 1 << 2 * length; number++) {
                int[] path = pathOf(number, length);
                long weight = weightOf(row, path);
                if (weight > most) {
                    most = weight;
                    best = path;
                }
            }
            return best;
        }

        private long path(int row, int i) {
            if (!in(row, 0, 3)) {
                return BAD;
            }
            int[] best = bestPath(row);
            return best == null || !in(i, 0, best.length - 1) ? NONE : best[i];
        }

        private long at(int row, int i, int state, int side) {
            if (!in(row, 0, 3) || !in(i, 0, signs.get(row).size() - 1) || !in(state, 0, 3) || !in(side, 0, 1)) {
                return BAD;
            }
            long total = totalOf(row, NONE, NONE);
            return total == 0 ? Check.THROWS : Part.of(totalOf(row, i, state), total).side(side);
        }

        private long learn(int n) {
            if (!in(n, 1, 20)) {
                return BAD;
            }
            for (int done = 1; done <= n; done++) {
                int[][][] fresh = ones();
                for (int row = 0; row < 4; row++) {
                    int[] best = bestPath(row);
                    for (int i = 0; best != null && i < best.length; i++) {
                        fresh[2][best[i]][signs.get(row).get(i)]++;
                        if (i == 0) {
                            fresh[0][best[0]][0]++;
                        } else {
                            fresh[1][best[i - 1]][best[i]]++;
                        }
                    }
                }
                boolean changed = !Arrays.deepEquals(weights, fresh);
                weights = fresh;
                if (!changed) {
                    return done;
                }
            }
            return n;
        }

        private List<Rule> rules() {
            List<Rule> found = new ArrayList<>();
            for (int w = 0; w < 8; w++) {
                for (int v = 0; v < 8; v++) {
                    int having = 0;
                    int both = 0;
                    for (Row row : rows) {
                        having += row.words.contains(w) ? 1 : 0;
                        both += row.words.contains(w) && row.words.contains(v) ? 1 : 0;
                    }
                    if (w != v && both > 0) {
                        found.add(new Rule(w, v, both, Part.of(both, having)));
                    }
                }
            }
            // The sort keeps the order of w and v among like ones.
            found.sort((a, b) -> a.support != b.support
                ? b.support - a.support : b.confidence.compareTo(a.confidence));
            return found;
        }

        private long rule(int i, int what) {
            if (!in(what, 0, 4)) {
                return BAD;
            }
            List<Rule> all = rules();
            if (!in(i, 0, all.size() - 1)) {
                return NONE;
            }
            Rule rule = all.get(i);
            long[] parts = {rule.w, rule.v, rule.support, rule.confidence.side(0), rule.confidence.side(1)};
            return parts[what];
        }

        private long count(int what) {
            switch (what) {
                case 0: return rows.size();
                case 1: return rows.stream().filter(row -> row.label != NONE).count();
                case 2: return text.size();
                case 3: return rules().size();
                case 4: return signs.stream().mapToInt(List::size).sum();
                default: return BAD;
            }
        }
    }
}
