/** Promises 15 to 20 and section 3 of the terms: each sentence that names a boundary case has its own method. */
public final class StateEdgesTest {
    private static final int NONE = CountLearners.NONE, BAD = CountLearners.BAD, FULL = CountLearners.FULL;
    private static final int START = 0, MOVE = 1, SHOW = 2;

    public static void main(String[] args) {
        weightsAsTold();
        weightStays();
        weightsNotAsTold();
        startLooksAtNoSecondState();
        noSuchWeight();
        fiveSigns();
        signsAsTold();
        totalWithoutSigns();
        totalOfOneSign();
        totalOfTheGreatest();
        pathOfLikeOnes();
        pathsDifferFirst();
        pathAroundZeros();
        pathIsNone();
        pathPlaces();
        pathRows();
        atNothingAndAll();
        atAllStatesSumToOne();
        atBadFirst();
        atThrows();
        learnAsTold();
        roundThatChangesNothing();
        rowsWithoutABestPath();
        weightsAsTheyAre();
        countsBecomeWeights();
        Check.end();
    }

    private static void weightsAsTold() {
        Check.sentence("WEIGHTS 0 .. 21 (all 1 at first); A WEIGHT becomes v: what it was");
        CountLearners x = new CountLearners();
        int[][] places = {{START, 0, 0}, {START, 3, 0}, {MOVE, 0, 0}, {MOVE, 3, 3}, {SHOW, 0, 0}, {SHOW, 3, 3}};
        for (int[] p : places) {
            int was = 1;
            for (int v = 0; v <= 21; v++) {
                Check.due(Calls.told("weigh", p[0], p[1], p[2], v), x.weigh(p[0], p[1], p[2], v), was);
                was = v;
            }
            Check.due(Calls.told("weigh", p[0], p[1], p[2], 0), x.weigh(p[0], p[1], p[2], 0), 21);
        }
    }

    private static void weightStays() {
        Check.sentence("A WEIGHT becomes v (NONE: it stays)");
        CountLearners x = new CountLearners();
        for (int what = 0; what <= 2; what++) {
            x.weigh(what, 2, 1, 13);
            Check.due("weigh(" + what + ", 2, 1, NONE)", x.weigh(what, 2, 1, NONE), 13);
            Check.due("weigh(" + what + ", 2, 1, NONE) again", x.weigh(what, 2, 1, NONE), 13);
            Check.due("weigh(" + what + ", 1, 2, NONE), another", x.weigh(what, 1, 2, NONE), 1);
        }
    }

    private static void weightsNotAsTold() {
        Check.sentence("WEIGHTS 0 .. 21. BAD");
        CountLearners x = new CountLearners();
        for (int what = 0; what <= 2; what++) {
            Check.due("weigh(" + what + ", 1, 1, 22)", x.weigh(what, 1, 1, 22), BAD);
            Check.due("weigh(" + what + ", 1, 1, -2)", x.weigh(what, 1, 1, -2), BAD);
            Check.due("weigh(" + what + ", 1, 1, NONE)", x.weigh(what, 1, 1, NONE), 1);
        }
    }

    private static void startLooksAtNoSecondState() {
        Check.sentence("what = 0 START of state i (j is not looked at)");
        CountLearners x = new CountLearners();
        int was = 1;
        int v = 2;
        for (int j : new int[] {Integer.MIN_VALUE, -2, -1, 0, 3, 4, 100, Integer.MAX_VALUE}) {
            Check.due("weigh(0, 3, " + j + ", " + v + ")", x.weigh(START, 3, j, v), was);
            was = v;
            v++;
        }
        for (int i = 0; i < 3; i++) {
            Check.due("START of " + i, x.weigh(START, i, 9, NONE), 1);
        }
    }

    private static void noSuchWeight() {
        Check.sentence("STATES are 0 .. 3, SIGNS 0 .. 3; weigh: BAD");
        CountLearners x = new CountLearners();
        for (int no : new int[] {-2, -1, 4}) {
            Check.due("weigh(0, " + no + ", 0, 2)", x.weigh(START, no, 0, 2), BAD);
            Check.due("weigh(1, " + no + ", 0, 2)", x.weigh(MOVE, no, 0, 2), BAD);
            Check.due("weigh(1, 0, " + no + ", 2)", x.weigh(MOVE, 0, no, 2), BAD);
            Check.due("weigh(2, " + no + ", 0, 2)", x.weigh(SHOW, no, 0, 2), BAD);
            Check.due("weigh(2, 0, " + no + ", 2)", x.weigh(SHOW, 0, no, 2), BAD);
            Check.due("weigh(1, 0, " + no + ", NONE)", x.weigh(MOVE, 0, no, NONE), BAD);
        }
        Check.due("weigh(-1, 0, 0, NONE)", x.weigh(-1, 0, 0, NONE), BAD);
        Check.due("weigh(3, 0, 0, NONE)", x.weigh(3, 0, 0, NONE), BAD);
    }

    private static void fiveSigns() {
        Check.sentence("SIGN ROWS 0 .. 3 of up to 5 SIGNS; sign: how many it has. FULL");
        CountLearners x = new CountLearners();
        for (int row = 3; row >= 0; row--) {
            for (int i = 1; i <= 5; i++) {
                Check.due("sign(" + row + ", " + i % 4 + ")", x.sign(row, i % 4), i);
            }
            for (int s = 0; s < 4; s++) {
                Check.due("sign(" + row + ", " + s + ") of 6", x.sign(row, s), FULL);
            }
            Check.due("sign(" + row + ", 4) of 6", x.sign(row, 4), BAD);
            Check.due("count(4)", x.count(4), 5 * (4 - row));
        }
    }

    private static void signsAsTold() {
        Check.sentence("SIGNS 0 .. 3; SIGN ROWS 0 .. 3; sign: BAD");
        CountLearners x = new CountLearners();
        Check.due("sign(0, 0)", x.sign(0, 0), 1);
        Check.due("sign(0, 3)", x.sign(0, 3), 2);
        Check.due("sign(3, 3)", x.sign(3, 3), 1);
        Check.due("sign(4, 0)", x.sign(4, 0), BAD);
        Check.due("sign(-1, 0)", x.sign(-1, 0), BAD);
        Check.due("sign(0, 4)", x.sign(0, 4), BAD);
        Check.due("sign(0, -1)", x.sign(0, -1), BAD);
        Check.due("count(4)", x.count(4), 3);
        x.weigh(SHOW, 0, 3, 5);
        Check.due("total(3), of sign 3 alone", x.total(3), 8);
    }

    private static void totalWithoutSigns() {
        Check.sentence("TOTAL of the row (0 without SIGNS)");
        CountLearners x = new CountLearners();
        x.sign(1, 0);
        Check.due("total(0)", x.total(0), 0);
        Check.due("total(1)", x.total(1), 4);
        Check.due("total(2)", x.total(2), 0);
        Check.due("total(3)", x.total(3), 0);
        Check.due("total(4)", x.total(4), BAD);
        Check.due("total(-1)", x.total(-1), BAD);
    }

    private static void totalOfOneSign() {
        Check.sentence("it weighs START of the first state, times SHOW of each sign, times MOVE: one sign has no MOVE");
        CountLearners x = new CountLearners();
        x.sign(0, 2);
        for (int i = 0; i < 4; i++) {
            x.weigh(START, i, 0, i + 1);
            x.weigh(SHOW, i, 2, 10 - i);
            for (int j = 0; j < 4; j++) {
                x.weigh(MOVE, i, j, 0);
            }
        }
        // 1 * 10, 2 * 9, 3 * 8, 4 * 7
        Check.due("total(0)", x.total(0), 80);
        Check.due("path(0, 0)", x.path(0, 0), 3);
        Check.dueAt(x, 0, 0, 0, 1, 8);
    }

    private static void totalOfTheGreatest() {
        Check.sentence("All shares are exact; WEIGHTS 0 .. 21, up to 5 SIGNS: the greatest TOTAL");
        CountLearners x = new CountLearners();
        for (int i = 0; i < 4; i++) {
            x.weigh(START, i, 0, 21);
            for (int j = 0; j < 4; j++) {
                x.weigh(MOVE, i, j, 21);
                x.weigh(SHOW, i, j, 21);
            }
        }
        Check.signsOf(x, 3, 0, 1, 2, 3, 0);
        // 21 to the tenth, for each of 1024 paths
        Check.due("total(3)", x.total(3), 16679880978201L * 1024);
        Check.dueAt(x, 3, 0, 0, 1, 4);
        x.weigh(SHOW, 3, 0, 20);
        // The first and the last sign may be shown in state 3, by 20 in place of 21: 83 / 84 of what it was, twice.
        Check.due("total(3), one less", x.total(3), 16679880978201L / 441 * 1024 / 16 * 83 * 83);
        Check.dueAt(x, 3, 4, 3, 20, 83);
        Check.dueAt(x, 3, 4, 0, 21, 83);
        for (int i = 0; i < 5; i++) {
            Check.due("path(3, " + i + ")", x.path(3, i), 0);
        }
    }

    private static void pathOfLikeOnes() {
        Check.sentence("of like ones it is that with the lesser state at the first place where they differ");
        CountLearners x = new CountLearners();
        Check.signsOf(x, 0, 3, 3, 3, 3, 3);
        for (int i = 0; i < 5; i++) {
            Check.due("path(0, " + i + "), all alike", x.path(0, i), 0);
        }
        // Like ones are 1 2 1, 1 2 3, 2 1 2, 2 3 2, 3 2 1, 3 2 3; each change takes some of them away.
        CountLearners y = new CountLearners();
        Check.signsOf(y, 1, 0, 0, 0);
        y.weigh(MOVE, 1, 2, 4);
        y.weigh(MOVE, 2, 3, 4);
        y.weigh(MOVE, 3, 2, 4);
        y.weigh(MOVE, 2, 1, 4);
        duePath(y, 1, 1, 2, 1);
        y.weigh(MOVE, 2, 1, 3);
        duePath(y, 1, 1, 2, 3);
        y.weigh(MOVE, 1, 2, 3);
        duePath(y, 1, 2, 3, 2);
        y.weigh(START, 3, 0, 2);
        duePath(y, 1, 3, 2, 3);
    }

    private static void duePath(CountLearners x, int row, int... states) {
        for (int i = 0; i < states.length; i++) {
            Check.due("path(" + row + ", " + i + ")", x.path(row, i), states[i]);
        }
    }

    /** 0 3 and 1 0 weigh alike: the first place tells, not the last one, nor the sum. */
    private static void pathsDifferFirst() {
        Check.sentence("the lesser state at the first place where they differ: not at the last one");
        CountLearners x = new CountLearners();
        Check.signsOf(x, 2, 1, 1);
        x.weigh(MOVE, 0, 3, 6);
        x.weigh(MOVE, 1, 0, 6);
        duePath(x, 2, 0, 3);
        x.weigh(START, 1, 0, 2);
        duePath(x, 2, 1, 0);
        x.weigh(START, 0, 0, 2);
        duePath(x, 2, 0, 3);
        x.weigh(MOVE, 0, 2, 6);
        duePath(x, 2, 0, 2);
    }

    private static void pathAroundZeros() {
        Check.sentence("Its BEST PATH weighs most: a way through WEIGHTS of 0 weighs nothing");
        CountLearners x = new CountLearners();
        Check.signsOf(x, 0, 0, 1, 2);
        for (int i = 0; i < 3; i++) {
            x.weigh(START, i, 0, 0);
            x.weigh(MOVE, 3, i, 0);
            x.weigh(SHOW, i, 0, 21);
        }
        duePath(x, 0, 3, 3, 3);
        Check.due("total(0), one path", x.total(0), 1);
    }

    private static void pathIsNone() {
        Check.sentence("there is none, if TOTAL is 0");
        for (int what = 0; what <= 2; what++) {
            CountLearners x = new CountLearners();
            Check.signsOf(x, 0, 2, 2);
            for (int i = 0; i < 4; i++) {
                for (int j = 0; j < (what == MOVE ? 4 : 1); j++) {
                    Check.isTrue("path(0, 0) is there", x.path(0, 0) >= 0);
                    x.weigh(what, i, what == SHOW ? 2 : j, 0);
                }
            }
            Check.due("total(0) without " + what, x.total(0), 0);
            Check.due("path(0, 0) without " + what, x.path(0, 0), NONE);
            Check.due("path(0, 1) without " + what, x.path(0, 1), NONE);
            Check.due("at(0, 0, 0, 0) without " + what, Check.at(x, 0, 0, 0, 0), Check.THROWS);
        }
    }

    private static void pathPlaces() {
        Check.sentence("NONE: there is none such, no such place");
        CountLearners x = new CountLearners();
        Check.signsOf(x, 2, 0);
        x.weigh(START, 3, 0, 9);
        Check.due("path(2, 0)", x.path(2, 0), 3);
        for (int i : new int[] {Integer.MIN_VALUE, -2, -1, 1, 2, 4, 5, Integer.MAX_VALUE}) {
            Check.due("path(2, " + i + ")", x.path(2, i), NONE);
            Check.due("path(1, " + i + ") without signs", x.path(1, i), NONE);
        }
        Check.due("path(1, 0) without signs", x.path(1, 0), NONE);
        Check.signsOf(x, 2, 0, 0, 0, 0);
        Check.due("path(2, 4) of five", x.path(2, 4), 0);
        Check.due("path(2, 5) of five", x.path(2, 5), NONE);
    }

    private static void pathRows() {
        Check.sentence("path: BAD: the row");
        CountLearners x = Samples.BEGUN.make();
        for (int row : new int[] {Integer.MIN_VALUE, -2, -1, 4, Integer.MAX_VALUE}) {
            Check.due("path(" + row + ", 0)", x.path(row, 0), BAD);
            Check.due("path(" + row + ", -1)", x.path(row, -1), BAD);
            Check.due("path(" + row + ", 5)", x.path(row, 5), BAD);
        }
    }

    private static void atNothingAndAll() {
        Check.sentence("A side of the SHARE of TOTAL: nothing is 0 by 1, all is 1 by 1");
        CountLearners x = new CountLearners();
        Check.signsOf(x, 1, 0, 3);
        for (int i = 0; i < 3; i++) {
            x.weigh(SHOW, i, 3, 0);
        }
        for (int state = 0; state < 4; state++) {
            Check.dueAt(x, 1, 0, state, 1, 4);
        }
        for (int state = 0; state < 3; state++) {
            Check.dueAt(x, 1, 1, state, 0, 1);
        }
        Check.dueAt(x, 1, 1, 3, 1, 1);
    }

    private static void atAllStatesSumToOne() {
        Check.sentence("those PATHS of a SIGN ROW weigh that have a state at place i");
        CountLearners x = Samples.FULL.make();
        for (int row = 0; row < 4; row++) {
            long whole = x.total(row);
            for (int i = 0; i < 5; i++) {
                long sum = 0;
                for (int state = 0; state < 4; state++) {
                    sum += whole / x.at(row, i, state, 1) * x.at(row, i, state, 0);
                }
                Check.due("all states at place " + i + " of " + row, sum, whole);
            }
        }
    }

    private static void atBadFirst() {
        Check.sentence("BAD (first): also no such place");
        CountLearners x = new CountLearners();
        Check.signsOf(x, 0, 1, 1);
        for (int turn = 0; turn < 2; turn++) {
            int[][] no = {
                {-1, 0, 0, 0}, {4, 0, 0, 0}, {0, -1, 0, 0}, {0, 2, 0, 0}, {0, 5, 0, 0}, {1, 0, 0, 0}, {0, 0, -1, 0},
                {0, 0, 4, 0}, {0, 0, 0, -1}, {0, 0, 0, 2}
            };
            for (int[] a : no) {
                Check.due(Calls.told("at", a), Calls.ask(x, "at", a), BAD);
            }
            Check.due("at(0, 1, 3, 1)", Check.at(x, 0, 1, 3, 1), turn == 0 ? 4 : Check.THROWS);
            for (int i = 0; i < 4; i++) {
                x.weigh(SHOW, i, 1, 0);
            }
        }
    }

    private static void atThrows() {
        Check.sentence("ArithmeticException: TOTAL is 0");
        CountLearners x = Samples.NOTHING.make();
        for (int row = 0; row < 4; row++) {
            for (int state = 0; state < 4; state++) {
                Check.due("at(" + row + ", 1, " + state + ", 0)", Check.at(x, row, 1, state, 0), Check.THROWS);
                Check.due("at(" + row + ", 0, " + state + ", 1)", Check.at(x, row, 0, state, 1), Check.THROWS);
            }
        }
        x.weigh(START, 2, 0, 1);
        Check.dueAt(x, 0, 0, 1, 0, 1);
        Check.dueAt(x, 0, 0, 2, 1, 1);
    }

    /** Found by a search; slow models told 20 rounds, too. */
    private static CountLearners twentyRounds() {
        int[] starts = {0, 14, 12, 2};
        int[] moves = {13, 14, 5, 17, 10, 0, 9, 11, 4, 19, 11, 16, 0, 19, 1, 0};
        int[] shows = {4, 2, 18, 9, 20, 1, 15, 10, 2, 5, 15, 5, 21, 17, 14, 3};
        CountLearners x = new CountLearners();
        for (int i = 0; i < 4; i++) {
            x.weigh(START, i, 0, starts[i]);
            for (int j = 0; j < 4; j++) {
                x.weigh(MOVE, i, j, moves[4 * i + j]);
                x.weigh(SHOW, i, j, shows[4 * i + j]);
            }
        }
        Check.signsOf(x, 0, 1, 2, 0, 2, 0);
        Check.signsOf(x, 1, 2, 1, 0, 2, 2);
        Check.signsOf(x, 2, 2, 3, 3, 3, 3);
        Check.signsOf(x, 3, 2, 2, 2, 0, 2);
        return x;
    }

    private static void learnAsTold() {
        Check.sentence("ROUNDS of states, at most n (1 .. 20). BAD");
        for (int n = 1; n <= 20; n++) {
            CountLearners x = twentyRounds();
            Check.due("learn(" + n + ")", x.learn(n), n);
            Check.due("learn(20) after learn(" + n + ")", x.learn(20), n < 20 ? 20 - n : 1);
            Check.due("learn(20), nothing is left", x.learn(20), 1);
        }
        CountLearners x = twentyRounds();
        for (int n : new int[] {0, -1, 21, Integer.MIN_VALUE, Integer.MAX_VALUE}) {
            Check.due("learn(" + n + ")", x.learn(n), BAD);
        }
        Check.due("START of 1 after refusals", x.weigh(START, 1, 0, NONE), 14);
    }

    private static void roundThatChangesNothing() {
        Check.sentence("up to the first one that changes no WEIGHT: how many were done (with that one)");
        CountLearners x = new CountLearners();
        Check.due("learn(20), a new object", x.learn(20), 1);
        Check.due("learn(1), a new object", x.learn(1), 1);
        for (int what = 0; what <= 2; what++) {
            x.weigh(what, 3, 3, 0);
            Check.due("learn(1), a WEIGHT goes back to 1", x.learn(1), 1);
            Check.due("weigh(" + what + ", 3, 3, NONE)", x.weigh(what, 3, 3, NONE), 1);
            x.weigh(what, 3, 3, 21);
            Check.due("learn(20), a WEIGHT goes back to 1", x.learn(20), 2);
            Check.due("weigh(" + what + ", 3, 3, NONE)", x.weigh(what, 3, 3, NONE), 1);
            Check.due("learn(20), all stands", x.learn(20), 1);
        }
    }

    private static void rowsWithoutABestPath() {
        Check.sentence("A ROUND: of all SIGN ROWS that have a BEST PATH");
        CountLearners x = new CountLearners();
        Check.signsOf(x, 0, 1, 1);
        Check.signsOf(x, 2, 3);
        for (int i = 0; i < 4; i++) {
            x.weigh(SHOW, i, 1, 0);
        }
        x.weigh(START, 2, 0, 2);
        Check.due("learn(1)", x.learn(1), 1);
        // Row 0 weighs nothing, and rows 1 and 3 have no signs: only row 2 counts.
        for (int i = 0; i < 4; i++) {
            Check.due("START of " + i, x.weigh(START, i, 0, NONE), i == 2 ? 2 : 1);
            for (int j = 0; j < 4; j++) {
                Check.due("MOVE from " + i + " to " + j, x.weigh(MOVE, i, j, NONE), 1);
                Check.due("SHOW in " + i + " of " + j, x.weigh(SHOW, i, j, NONE), i == 2 && j == 3 ? 2 : 1);
            }
        }
        // Now row 0 has a path again, 2 0: START tells its first state, and nothing the second one.
        Check.due("learn(1), the second", x.learn(1), 1);
        Check.due("START of 2, of both rows", x.weigh(START, 2, 0, NONE), 3);
        Check.due("MOVE from 2 to 0", x.weigh(MOVE, 2, 0, NONE), 2);
    }

    /** By the counts of row 0 row 1 would begin with state 0, and by those of all it does so in the next round. */
    private static void weightsAsTheyAre() {
        Check.sentence("by the WEIGHTS as they are");
        CountLearners x = new CountLearners();
        Check.signsOf(x, 0, 0);
        Check.signsOf(x, 1, 1);
        x.weigh(SHOW, 3, 1, 2);
        Check.due("learn(1)", x.learn(1), 1);
        Check.due("START of 0", x.weigh(START, 0, 0, NONE), 2);
        Check.due("START of 3", x.weigh(START, 3, 0, NONE), 2);
        Check.due("SHOW in 3 of 1", x.weigh(SHOW, 3, 1, NONE), 2);
        Check.due("SHOW in 0 of 1", x.weigh(SHOW, 0, 1, NONE), 1);
    }

    private static void countsBecomeWeights() {
        Check.sentence("START becomes 1 more than how many begin so, MOVE 1 more ..., SHOW 1 more ...: the greatest");
        CountLearners x = new CountLearners();
        for (int row = 0; row < 4; row++) {
            Check.signsOf(x, row, 2, 2, 2, 2, 2);
        }
        x.weigh(START, 3, 0, 21);
        x.weigh(MOVE, 3, 3, 21);
        Check.due("learn(20)", x.learn(20), 2);
        Check.due("START of 3", x.weigh(START, 3, 0, NONE), 5);
        Check.due("MOVE from 3 to 3", x.weigh(MOVE, 3, 3, NONE), 17);
        Check.due("SHOW in 3 of 2", x.weigh(SHOW, 3, 2, NONE), 21);
        Check.due("START of 0", x.weigh(START, 0, 0, NONE), 1);
        Check.due("MOVE from 0 to 0", x.weigh(MOVE, 0, 0, NONE), 1);
        Check.due("SHOW in 0 of 2", x.weigh(SHOW, 0, 2, NONE), 1);
    }
}
