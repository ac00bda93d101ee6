/** Promises 15 to 20: states behind signs. */
public final class StatesTest {
    private static final int NONE = CountLearners.NONE, BAD = CountLearners.BAD, FULL = CountLearners.FULL;
    private static final int[] FAR = {Integer.MIN_VALUE, -1, 4, Integer.MAX_VALUE};

    public static void main(String[] args) {
        weigh();
        weighRefusals();
        sign();
        path();
        pathOfLikeOnes();
        pathRoundZeros();
        total();
        at();
        learn();
        learnOfManyRows();
        learnRefusals();
        Check.end();
    }

    private static void weigh() {
        CountLearners x = new CountLearners();
        for (int what = 0; what <= 2; what++) {
            for (int i = 0; i < 4; i++) {
                for (int j = 0; j < (what == 0 ? 1 : 4); j++) {
                    Check.due("weigh, at first", x.weigh(what, i, j, what * 5 + i + j), 1);
                }
            }
        }
        for (int what = 0; what <= 2; what++) {
            for (int i = 0; i < 4; i++) {
                for (int j = 0; j < (what == 0 ? 1 : 4); j++) {
                    Check.due("weigh, each has its own", x.weigh(what, i, j, NONE), what * 5 + i + j);
                    Check.due("weigh, NONE lets it stay", x.weigh(what, i, j, NONE), what * 5 + i + j);
                }
            }
        }
        Check.due("weigh(0, 1, MAX, 21)", x.weigh(0, 1, Integer.MAX_VALUE, 21), 1);
        Check.due("weigh(0, 1, -1, 0)", x.weigh(0, 1, -1, 0), 21);
        Check.due("weigh(0, 1, MIN, NONE)", x.weigh(0, 1, Integer.MIN_VALUE, NONE), 0);
    }

    private static void weighRefusals() {
        CountLearners x = new CountLearners();
        for (int what = 0; what <= 2; what++) {
            for (int far : FAR) {
                Check.due("weigh(" + what + ", " + far + ", 0, 5)", x.weigh(what, far, 0, 5), BAD);
                Check.due("weigh(" + what + ", 0, " + far + ", 1)", x.weigh(what, 0, far, 1), what == 0 ? 1 : BAD);
            }
            Check.due("weigh(" + what + ", 0, 0, 22)", x.weigh(what, 0, 0, 22), BAD);
            Check.due("weigh(" + what + ", 0, 0, -2)", x.weigh(what, 0, 0, -2), BAD);
            Check.due("weigh(" + what + ", 0, 0, MIN)", x.weigh(what, 0, 0, Integer.MIN_VALUE), BAD);
            Check.due("weigh(" + what + ", 0, 0, NONE)", x.weigh(what, 0, 0, NONE), 1);
        }
        Check.due("weigh(3, 0, 0, 1)", x.weigh(3, 0, 0, 1), BAD);
        Check.due("weigh(-1, 0, 0, 1)", x.weigh(-1, 0, 0, 1), BAD);
        Check.due("weigh(MAX, 0, 0, NONE)", x.weigh(Integer.MAX_VALUE, 0, 0, NONE), BAD);
    }

    private static void sign() {
        CountLearners x = new CountLearners();
        for (int far : FAR) {
            Check.due("sign(" + far + ", 0)", x.sign(far, 0), BAD);
            Check.due("sign(0, " + far + ")", x.sign(0, far), BAD);
        }
        for (int row = 0; row < 4; row++) {
            for (int i = 1; i <= 5; i++) {
                Check.due("sign(" + row + ", 3)", x.sign(row, 3), i);
            }
            Check.due("sign(" + row + ", 0), full", x.sign(row, 0), FULL);
            Check.due("sign(" + row + ", 4), full", x.sign(row, 4), BAD);
        }
        Check.due("count(4)", x.count(4), 20);
        Check.due("total(3) of five signs", x.total(3), 1024);
    }

    private static void path() {
        CountLearners x = new CountLearners();
        for (int far : FAR) {
            Check.due("path(" + far + ", 0)", x.path(far, 0), BAD);
            Check.due("path(" + far + ", -1)", x.path(far, -1), BAD);
            Check.due("path(0, " + far + ")", x.path(0, far), NONE);
        }
        Check.due("path(0, 0) without signs", x.path(0, 0), NONE);
        Check.signsOf(x, 0, 0, 1);
        // The best first step (state 1) leads to less than the other one (state 3).
        x.weigh(0, 1, 0, 3);
        x.weigh(0, 3, 0, 2);
        x.weigh(1, 3, 2, 2);
        Check.due("path(0, 0)", x.path(0, 0), 3);
        Check.due("path(0, 1)", x.path(0, 1), 2);
        Check.due("path(0, 2)", x.path(0, 2), NONE);
        Check.due("path(0, -1)", x.path(0, -1), NONE);
        Check.due("path(1, 0), another row", x.path(1, 0), NONE);
        x.weigh(2, 0, 1, 21);
        Check.due("path(0, 0) by show", x.path(0, 0), 1);
        Check.due("path(0, 1) by show", x.path(0, 1), 0);
    }

    /** Of like paths the first place where they differ counts, not the last: 0 0 3 is ahead of 2 1 0. */
    private static void pathOfLikeOnes() {
        CountLearners x = new CountLearners();
        Check.signsOf(x, 2, 1, 1, 1);
        for (int i = 0; i < 3; i++) {
            Check.due("path(2, i), all like", x.path(2, i), 0);
        }
        x.weigh(1, 0, 3, 6);
        x.weigh(1, 2, 1, 6);
        Check.due("path(2, 0)", x.path(2, 0), 0);
        Check.due("path(2, 1)", x.path(2, 1), 0);
        Check.due("path(2, 2)", x.path(2, 2), 3);
        x.weigh(1, 0, 0, 0);
        Check.due("path(2, 0), no way 0 0", x.path(2, 0), 0);
        Check.due("path(2, 1), no way 0 0", x.path(2, 1), 2);
        Check.due("path(2, 2), no way 0 0", x.path(2, 2), 1);
    }

    private static void pathRoundZeros() {
        CountLearners x = new CountLearners();
        Check.signsOf(x, 0, 0, 1, 2);
        for (int i = 0; i < 3; i++) {
            x.weigh(0, i, 0, 0);
            x.weigh(1, 3, i, 0);
        }
        x.weigh(2, 0, 0, 21);
        Check.due("path(0, 0), only 3 starts", x.path(0, 0), 3);
        Check.due("path(0, 2), only 3 follows", x.path(0, 2), 3);
        Check.due("total(0), one path", x.total(0), 1);
        x.weigh(2, 3, 2, 0);
        Check.due("path(0, 0), all are 0", x.path(0, 0), NONE);
        Check.due("total(0), all are 0", x.total(0), 0);
    }

    private static void total() {
        CountLearners x = new CountLearners();
        for (int far : FAR) {
            Check.due("total(" + far + ")", x.total(far), BAD);
        }
        Check.due("total(0) without signs", x.total(0), 0);
        x.sign(0, 2);
        x.weigh(0, 0, 0, 2);
        x.weigh(2, 0, 2, 3);
        x.weigh(2, 1, 2, 0);
        Check.due("total(0) of one sign", x.total(0), 8);
        x.sign(0, 0);
        x.weigh(1, 0, 1, 5);
        x.weigh(1, 1, 0, 21);
        Check.due("total(0) of two signs", x.total(0), 6 * 8 + 4 + 4);
        CountLearners y = new CountLearners();
        Check.signsOf(y, 3, 0, 1, 2, 3, 0);
        for (int i = 0; i < 4; i++) {
            y.weigh(0, i, 0, 21);
            for (int j = 0; j < 4; j++) {
                y.weigh(1, i, j, 21);
                y.weigh(2, i, j, 21);
            }
        }
        // 21 to the tenth, for each of 1024 paths
        Check.due("total(3) of the greatest weights", y.total(3), 16679880978201L * 1024);
        Check.dueAt(y, 3, 4, 3, 1, 4);
        Check.due("path(3, 4) of the greatest weights", y.path(3, 4), 0);
    }

    private static void at() {
        CountLearners x = new CountLearners();
        Check.due("at(0, 0, 0, 0) without signs", Check.at(x, 0, 0, 0, 0), BAD);
        Check.signsOf(x, 0, 0, 0);
        x.weigh(0, 2, 0, 3);
        x.weigh(1, 2, 1, 0);
        x.weigh(2, 3, 0, 0);
        // Starts 1, 1, 3, 0; ways onward without 3 as a state: 3, 3, 2.
        Check.dueAt(x, 0, 0, 0, 1, 4);
        Check.dueAt(x, 0, 0, 2, 1, 2);
        Check.dueAt(x, 0, 0, 3, 0, 1);
        Check.dueAt(x, 0, 1, 1, 1, 6);
        Check.dueAt(x, 0, 1, 2, 5, 12);
        for (int far : FAR) {
            Check.due("at(" + far + ", 0, 0, 0)", Check.at(x, far, 0, 0, 0), BAD);
            Check.due("at(0, " + far + ", 0, 0)", Check.at(x, 0, far, 0, 0), BAD);
            Check.due("at(0, 0, " + far + ", 0)", Check.at(x, 0, 0, far, 0), BAD);
            Check.due("at(0, 0, 0, " + far + ")", Check.at(x, 0, 0, 0, far), BAD);
        }
        Check.due("at(0, 2, 0, 0)", Check.at(x, 0, 2, 0, 0), BAD);
        Check.due("at(0, 0, 0, 2)", Check.at(x, 0, 0, 0, 2), BAD);
        for (int i = 0; i < 4; i++) {
            x.weigh(0, i, 0, 0);
        }
        Check.due("at(0, 0, 0, 0), TOTAL is 0", Check.at(x, 0, 0, 0, 0), Check.THROWS);
        Check.due("at(0, 1, 3, 1), TOTAL is 0", Check.at(x, 0, 1, 3, 1), Check.THROWS);
        Check.due("at(0, 2, 0, 0), BAD first", Check.at(x, 0, 2, 0, 0), BAD);
        Check.due("at(0, 0, 4, 0), BAD first", Check.at(x, 0, 0, 4, 0), BAD);
        Check.due("at(0, 0, 0, 2), BAD first", Check.at(x, 0, 0, 0, 2), BAD);
    }

    private static void learn() {
        CountLearners x = new CountLearners();
        Check.due("learn(20) without signs", x.learn(20), 1);
        x.weigh(1, 2, 2, 0);
        x.weigh(0, 3, 0, 9);
        Check.due("learn(20) sets all to 1", x.learn(20), 2);
        Check.due("weigh(1, 2, 2, NONE)", x.weigh(1, 2, 2, NONE), 1);
        Check.due("weigh(0, 3, 0, NONE)", x.weigh(0, 3, 0, NONE), 1);
        Check.signsOf(x, 1, 2, 3, 2);
        x.weigh(0, 1, 0, 2);
        x.weigh(1, 1, 3, 2);
        x.weigh(1, 3, 1, 2);
        x.weigh(2, 0, 0, 17);
        Check.due("learn(1)", x.learn(1), 1);
        Check.due("START of 1", x.weigh(0, 1, 0, NONE), 2);
        Check.due("START of 0", x.weigh(0, 0, 0, NONE), 1);
        Check.due("MOVE 1 3", x.weigh(1, 1, 3, NONE), 2);
        Check.due("MOVE 3 1", x.weigh(1, 3, 1, NONE), 2);
        Check.due("SHOW 1 of 2", x.weigh(2, 1, 2, NONE), 3);
        Check.due("SHOW 3 of 3", x.weigh(2, 3, 3, NONE), 2);
        Check.due("SHOW 0 of 0, not shown", x.weigh(2, 0, 0, NONE), 1);
        Check.due("learn(20) when all stands", x.learn(20), 1);
    }

    /** All twenty signs alike: the counts reach what a WEIGHT may be at most. */
    private static void learnOfManyRows() {
        CountLearners x = new CountLearners();
        for (int row = 0; row < 4; row++) {
            Check.signsOf(x, row, 0, 0, 0, 0, 0);
        }
        Check.due("learn(20)", x.learn(20), 2);
        Check.due("START of 0", x.weigh(0, 0, 0, NONE), 5);
        Check.due("MOVE 0 0", x.weigh(1, 0, 0, NONE), 17);
        Check.due("SHOW 0 of 0", x.weigh(2, 0, 0, NONE), 21);
        Check.due("SHOW 1 of 0", x.weigh(2, 1, 0, NONE), 1);
        x.weigh(2, 0, 0, 0);
        x.weigh(2, 1, 0, 0);
        x.weigh(2, 2, 0, 0);
        x.weigh(2, 3, 0, 0);
        Check.due("learn(2) without a best path", x.learn(2), 2);
        Check.due("SHOW 0 of 0, anew", x.weigh(2, 0, 0, NONE), 21);
    }

    private static void learnRefusals() {
        CountLearners x = new CountLearners();
        x.weigh(0, 0, 0, 7);
        for (int n : new int[] {0, -1, 21, Integer.MIN_VALUE, Integer.MAX_VALUE}) {
            Check.due("learn(" + n + ")", x.learn(n), BAD);
        }
        Check.due("START of 0 after refusals", x.weigh(0, 0, 0, NONE), 7);
    }
}
