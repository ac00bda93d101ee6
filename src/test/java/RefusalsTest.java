import java.util.ArrayList;
import java.util.Arrays;
import java.util.List;

/**
 * REFUSALS, for each argument of each call: numbers that are as told, the first ones beyond, and far ones
 * which would come back into an array if they were multiplied, cut or negated.
 */
public final class RefusalsTest {
    private static final int NONE = CountLearners.NONE, BAD = CountLearners.BAD, FULL = CountLearners.FULL;
    private static final int MIN = Integer.MIN_VALUE, MAX = Integer.MAX_VALUE;
    private static final int[] FAR = {
        MIN, MIN + 1, -1 << 30, -1 << 16, -1 << 8, -40, -22, -8, -4, -3, -2, -1, 0, 1, 2, 3, 4, 5, 6, 7, 8, 9, 10,
        20, 21, 22, 40, 41, 60, 61, 255, 256, 1 << 16, 1 << 28, 1 << 29, 1 << 30, (1 << 30) + 1, MAX - 1, MAX
    };
    private static final int[] WORD = {0, 7}, LABEL = {0, 3}, SIDE = {0, 1}, STATE = {0, 3}, ROUNDS = {1, 20};
    private static final int[] LABEL_OR_NONE = {NONE, 3}, WORD_OR_NONE = {NONE, 7}, ANY = {MIN, MAX};
    private static final List<String> GROWING = List.of("row", "word", "text", "sign");
    private static final List<String> THROWING = List.of("share", "at");

    public static void main(String[] args) {
        numbersAsTold();
        numbersNotAsTold();
        fullOnes();
        noSharesThere();
        refusalsChangeNothing();
        fullChangesNothing();
        throwsChangeNothing();
        questionsChangeNothing();
        sectionsStandApart();
        objectsStandApart();
        Check.end();
    }

    /** What each argument may be, from .. to; where NONE may stand, it is the least one. */
    private static int[][] ranges(String call, Samples sample) {
        int[] row = {0, sample.rows - 1};
        int[] place = {0, sample.places - 1};
        switch (call) {
            case "row": return new int[][] {LABEL_OR_NONE};
            case "word": return new int[][] {row, WORD};
            case "label": return new int[][] {row, LABEL_OR_NONE};
            case "addition": return new int[][] {{0, 3}, {1, 3}};
            case "counted": return new int[][] {LABEL, {0, 9}};
            case "share": return new int[][] {LABEL, WORD, SIDE};
            case "weight": return new int[][] {row, LABEL, SIDE};
            case "best": return new int[][] {row};
            case "guess": return new int[][] {row};
            case "rounds": return new int[][] {ROUNDS};
            case "text": return new int[][] {WORD};
            case "next": return new int[][] {WORD_OR_NONE, WORD, WORD, SIDE};
            case "likely": return new int[][] {WORD_OR_NONE, WORD};
            case "weigh": return new int[][] {{0, 2}, STATE, {0, 3}, {NONE, 21}};
            case "sign": return new int[][] {{0, 3}, {0, 3}};
            case "path": return new int[][] {{0, 3}, ANY};
            case "total": return new int[][] {{0, 3}};
            case "at": return new int[][] {{0, 3}, place, STATE, SIDE};
            case "learn": return new int[][] {ROUNDS};
            case "rule": return new int[][] {ANY, {0, 4}};
            default: return new int[][] {{0, 4}};
        }
    }

    /** All ways to take the least or the most for each argument. */
    private static List<int[]> corners(int[][] ranges) {
        List<int[]> all = new ArrayList<>();
        for (int bits = 0; bits < 1 << ranges.length; bits++) {
            int[] a = new int[ranges.length];
            for (int k = 0; k < a.length; k++) {
                a[k] = ranges[k][bits >> k & 1];
            }
            all.add(a);
        }
        return all;
    }

    private static List<Integer> beyond(int[] range) {
        List<Integer> all = new ArrayList<>();
        for (int number : FAR) {
            if (number < range[0] || number > range[1]) {
                all.add(number);
            }
        }
        if (range[0] > MIN) {
            all.add(range[0] - 1);
        }
        if (range[1] < MAX) {
            all.add(range[1] + 1);
        }
        return all;
    }

    /** Whether the k-th argument may be what it is after all: START has no j, and NONE, NONE is the FIRST table. */
    private static boolean isTold(String call, int[] a, int k) {
        boolean isTable = call.equals("next") || call.equals("likely");
        return call.equals("weigh") && k == 2 && a[0] == 0 || isTable && k == 1 && a[0] == NONE && a[1] == NONE;
    }

    /** All calls with one number that is not as told. */
    private static List<int[]> notAsTold(String call, Samples sample) {
        int[][] ranges = ranges(call, sample);
        List<int[]> all = new ArrayList<>();
        for (int[] corner : corners(ranges)) {
            for (int k = 0; k < ranges.length; k++) {
                for (int number : beyond(ranges[k])) {
                    int[] a = corner.clone();
                    a[k] = number;
                    if (!isTold(call, a, k)) {
                        all.add(a);
                    }
                }
            }
        }
        return all;
    }

    private static void numbersAsTold() {
        Check.sentence("numbers as told are not refused");
        for (String call : Calls.NAMES) {
            for (int[] a : corners(ranges(call, Samples.BEGUN))) {
                long answer = Calls.ask(Samples.BEGUN.make(), call, a);
                Check.isTrue(Calls.told(call, a) + ": " + answer,
                    answer != BAD && answer != FULL && answer != Check.THROWS);
            }
        }
    }

    private static void numbersNotAsTold() {
        Check.sentence("BAD (a number is not as told, there is no such thing), FULL; of both BAD");
        for (Samples sample : Samples.values()) {
            for (String call : Calls.NAMES) {
                for (int[] a : notAsTold(call, sample)) {
                    Check.due(sample + ": " + Calls.told(call, a), Calls.ask(sample.make(), call, a), BAD);
                }
            }
        }
    }

    private static void fullOnes() {
        Check.sentence("FULL");
        for (String call : GROWING) {
            for (int[] a : corners(ranges(call, Samples.FULL))) {
                Check.due(Calls.told(call, a), Calls.ask(Samples.FULL.make(), call, a), FULL);
            }
        }
    }

    private static void noSharesThere() {
        Check.sentence("ArithmeticException: there is none; ArithmeticException: TOTAL is 0");
        for (String call : THROWING) {
            for (int[] a : corners(ranges(call, Samples.NOTHING))) {
                Check.due(Calls.told(call, a), Calls.ask(Samples.NOTHING.make(), call, a), Check.THROWS);
            }
        }
    }

    private static void dueUnchanged(Samples sample, Portrait part, String call, int[] a) {
        CountLearners x = sample.make();
        Calls.ask(x, call, a);
        Check.isTrue(sample + ": " + part + " as before " + Calls.told(call, a),
            Arrays.equals(part.of(x), part.of(sample.make())));
    }

    private static void dueUnchanged(Samples sample, String call, int[] a) {
        for (Portrait part : Portrait.values()) {
            dueUnchanged(sample, part, call, a);
        }
    }

    private static void refusalsChangeNothing() {
        Check.sentence("They, and calls that throw, change nothing");
        for (Samples sample : Samples.values()) {
            for (String call : Calls.NAMES) {
                int[][] ranges = ranges(call, sample);
                for (int k = 0; k < ranges.length; k++) {
                    changeNothing(sample, call, ranges, k);
                }
            }
        }
    }

    private static void changeNothing(Samples sample, String call, int[][] ranges, int k) {
        if (ranges[k] == ANY) {
            return;
        }
        int[] most = corners(ranges).get((1 << ranges.length) - 1);
        for (int number : new int[] {MIN, ranges[k][0] - 1, ranges[k][1] + 1, MAX}) {
            int[] a = most.clone();
            a[k] = number;
            if (!isTold(call, a, k)) {
                dueUnchanged(sample, call, a);
            }
        }
    }

    private static void fullChangesNothing() {
        Check.sentence("FULL changes nothing");
        for (String call : GROWING) {
            for (int[] a : corners(ranges(call, Samples.FULL))) {
                dueUnchanged(Samples.FULL, call, a);
            }
        }
    }

    private static void throwsChangeNothing() {
        Check.sentence("calls that throw, change nothing");
        for (String call : THROWING) {
            for (int[] a : corners(ranges(call, Samples.NOTHING))) {
                dueUnchanged(Samples.NOTHING, call, a);
            }
        }
    }

    private static void questionsChangeNothing() {
        Check.sentence("nothing is promised beyond the answers and state changes described");
        String[] questions = {
            "counted", "share", "weight", "best", "guess", "next", "likely", "path", "total", "at", "rule", "count"
        };
        for (Samples sample : List.of(Samples.BEGUN, Samples.FULL, Samples.NOTHING)) {
            for (String call : questions) {
                for (int[] a : corners(ranges(call, sample))) {
                    dueUnchanged(sample, call, a);
                }
            }
            dueUnchanged(sample, "next", new int[] {NONE, NONE, 3, 0});
            dueUnchanged(sample, "likely", new int[] {NONE, NONE});
            dueUnchanged(sample, "path", new int[] {0, 0});
            dueUnchanged(sample, "rule", new int[] {0, 0});
            dueUnchanged(sample, "weigh", new int[] {2, 3, 1, NONE});
        }
    }

    /** What changes one section leaves the others alone: guesses go by row, word, label and addition alone. */
    private static void sectionsStandApart() {
        Check.sentence("a call changes its own section alone");
        for (Samples sample : Samples.values()) {
            leavesOthers(sample, Portrait.TEXT, "text", 3);
            leavesOthers(sample, Portrait.STATES, "sign", 1, 2);
            leavesOthers(sample, Portrait.STATES, "weigh", 1, 2, 3, 20);
            leavesOthers(sample, Portrait.STATES, "learn", 20);
            leavesOthers(sample, Portrait.ROWS, "row", 1);
            leavesOthers(sample, Portrait.ROWS, "label", 0, 1);
            leavesOthers(sample, Portrait.ROWS, "label", 0, NONE);
            leavesOthers(sample, Portrait.ROWS, "addition", 3, 1);
            leavesOthers(sample, Portrait.ROWS, "rounds", 20);
            for (Portrait part : List.of(Portrait.TEXT, Portrait.STATES)) {
                dueUnchanged(sample, part, "word", new int[] {1, 7});
            }
        }
    }

    private static void objectsStandApart() {
        Check.sentence("an object is changed by its own calls alone");
        for (Samples sample : Samples.values()) {
            for (Samples other : Samples.values()) {
                for (Portrait part : Portrait.values()) {
                    long[] alone = part.of(sample.make());
                    CountLearners x = sample.make();
                    part.of(other.make());
                    Check.isTrue(part + " of " + sample + " beside " + other, Arrays.equals(part.of(x), alone));
                }
            }
        }
    }

    private static void leavesOthers(Samples sample, Portrait own, String call, int... a) {
        for (Portrait part : Portrait.values()) {
            if (part != own) {
                dueUnchanged(sample, part, call, a);
            }
        }
    }
}
