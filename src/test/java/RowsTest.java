/** Promises 1 to 9: rows, their words and labels, the addition, counts, shares, weights, the best label. */
public final class RowsTest {
    private static final int NONE = CountLearners.NONE, BAD = CountLearners.BAD, FULL = CountLearners.FULL;
    private static final int[] FAR = {Integer.MIN_VALUE, -2, Integer.MAX_VALUE};

    public static void main(String[] args) {
        newObject();
        row();
        word();
        label();
        addition();
        counted();
        share();
        weight();
        weightOfManyRows();
        best();
        bestOfGreatNumbers();
        bestOfLikeWeights();
        Check.end();
    }

    private static void newObject() {
        CountLearners x = new CountLearners();
        for (int what = 0; what <= 4; what++) {
            Check.due("new: count(" + what + ")", x.count(what), 0);
        }
        Check.due("new: best(0)", x.best(0), BAD);
        Check.due("new: guess(0)", x.guess(0), BAD);
        Check.due("new: rule(0, 0)", x.rule(0, 0), NONE);
        Check.dueShare(x, 0, 0, 1, 8);
        Check.dueNext(x, NONE, NONE, 7, 1, 8);
        for (int i = 0; i < 4; i++) {
            Check.due("new: START", x.weigh(0, i, 0, NONE), 1);
            Check.due("new: total", x.total(i), 0);
            for (int j = 0; j < 4; j++) {
                Check.due("new: MOVE", x.weigh(1, i, j, NONE), 1);
                Check.due("new: SHOW", x.weigh(2, i, j, NONE), 1);
            }
        }
    }

    private static void row() {
        CountLearners x = new CountLearners();
        Check.due("row(4)", x.row(4), BAD);
        for (int far : FAR) {
            Check.due("row(" + far + ")", x.row(far), BAD);
        }
        Check.due("count(0) after refusals", x.count(0), 0);
        for (int i = 0; i < 40; i++) {
            Check.due("row", x.row(i % 5 - 1), i);
        }
        Check.due("row(0) of 41", x.row(0), FULL);
        Check.due("row(NONE) of 41", x.row(NONE), FULL);
        Check.due("row(4) of 41", x.row(4), BAD);
        Check.due("count(0) when full", x.count(0), 40);
        Check.due("count(1) when full", x.count(1), 32);
        Check.due("counted(3, 9)", x.counted(3, 9), 8);
    }

    private static void word() {
        CountLearners x = new CountLearners();
        Check.due("word(0, 0) without rows", x.word(0, 0), BAD);
        x.row(2);
        Check.due("word(1, 0)", x.word(1, 0), BAD);
        Check.due("word(-1, 0)", x.word(-1, 0), BAD);
        Check.due("word(0, 8)", x.word(0, 8), BAD);
        Check.due("word(0, -1)", x.word(0, -1), BAD);
        for (int far : FAR) {
            Check.due("word(far, 0)", x.word(far, 0), BAD);
            Check.due("word(0, far)", x.word(0, far), BAD);
        }
        for (int i = 1; i <= 6; i++) {
            Check.due("word(0, 7)", x.word(0, 7), i);
        }
        Check.due("word(0, 7) of 7", x.word(0, 7), FULL);
        Check.due("word(0, 8) of 7", x.word(0, 8), BAD);
        Check.due("counted(2, 7)", x.counted(2, 7), 6);
        Check.due("counted(2, 8)", x.counted(2, 8), 6);
        x.row(2);
        Check.due("word(1, 0), a row beside a full one", x.word(1, 0), 1);
        Check.due("counted(2, 7) still", x.counted(2, 7), 6);
    }

    private static void label() {
        CountLearners x = new CountLearners();
        Check.due("label(0, 0) without rows", x.label(0, 0), BAD);
        Check.rowOf(x, NONE, 1, 1);
        Check.due("label(0, 3)", x.label(0, 3), NONE);
        Check.due("counted(3, 1)", x.counted(3, 1), 2);
        Check.due("label(0, 3) again", x.label(0, 3), 3);
        Check.due("label(0, 0)", x.label(0, 0), 3);
        Check.due("counted(3, 1) after", x.counted(3, 1), 0);
        Check.due("counted(0, 9) after", x.counted(0, 9), 1);
        Check.due("label(0, 4)", x.label(0, 4), BAD);
        Check.due("label(1, 0)", x.label(1, 0), BAD);
        Check.due("label(-1, 0)", x.label(-1, 0), BAD);
        for (int far : FAR) {
            Check.due("label(far, 0)", x.label(far, 0), BAD);
            Check.due("label(0, far)", x.label(0, far), BAD);
        }
        Check.due("label(0, NONE)", x.label(0, NONE), 0);
        Check.due("label(0, NONE) again", x.label(0, NONE), NONE);
        Check.due("count(1)", x.count(1), 0);
    }

    private static void addition() {
        CountLearners x = new CountLearners();
        Check.rowOf(x, 0, 5);
        for (int up = 0; up <= 3; up++) {
            for (int down = 1; down <= 3; down++) {
                Check.due("addition(" + up + ", " + down + ")", x.addition(up, down), 1);
            }
        }
        x.addition(2, 3);
        Check.due("addition(4, 1)", x.addition(4, 1), BAD);
        Check.due("addition(-1, 1)", x.addition(-1, 1), BAD);
        Check.due("addition(1, 0)", x.addition(1, 0), BAD);
        Check.due("addition(1, 4)", x.addition(1, 4), BAD);
        for (int far : FAR) {
            Check.due("addition(far, 1)", x.addition(far, 1), BAD);
            Check.due("addition(1, far)", x.addition(1, far), BAD);
        }
        // (1 + 2/3) / (1 + 16/3)
        Check.dueShare(x, 0, 5, 5, 19);
        Check.dueShare(x, 0, 4, 2, 19);
    }

    private static void counted() {
        CountLearners x = new CountLearners();
        Check.rowOf(x, 1, 0, 0, 7);
        Check.rowOf(x, 1, 7);
        Check.rowOf(x, 2, 7, 7);
        Check.rowOf(x, NONE, 3);
        Check.due("counted(1, 0)", x.counted(1, 0), 2);
        Check.due("counted(1, 7)", x.counted(1, 7), 2);
        Check.due("counted(1, 8)", x.counted(1, 8), 4);
        Check.due("counted(1, 9)", x.counted(1, 9), 2);
        Check.due("counted(2, 7)", x.counted(2, 7), 2);
        Check.due("counted(0, 3)", x.counted(0, 3), 0);
        Check.due("counted(3, 9)", x.counted(3, 9), 0);
        Check.due("counted(1, 10)", x.counted(1, 10), BAD);
        Check.due("counted(1, -1)", x.counted(1, -1), BAD);
        Check.due("counted(4, 0)", x.counted(4, 0), BAD);
        Check.due("counted(-1, 9)", x.counted(-1, 9), BAD);
        for (int far : FAR) {
            Check.due("counted(far, 8)", x.counted(far, 8), BAD);
            Check.due("counted(1, far)", x.counted(1, far), BAD);
        }
    }

    private static void share() {
        CountLearners x = new CountLearners();
        Check.rowOf(x, 0, 1, 1, 2, 3);
        Check.dueShare(x, 0, 1, 1, 4);
        Check.dueShare(x, 0, 2, 1, 6);
        Check.dueShare(x, 0, 0, 1, 12);
        x.addition(0, 3);
        Check.dueShare(x, 0, 1, 1, 2);
        Check.dueShare(x, 0, 0, 0, 1);
        Check.due("share(1, 0, 0)", Check.share(x, 1, 0, 0), Check.THROWS);
        Check.due("share(1, 0, 1)", Check.share(x, 1, 0, 1), Check.THROWS);
        Check.due("share(1, 8, 0), BAD before none", Check.share(x, 1, 8, 0), BAD);
        Check.due("share(1, 0, 2), BAD before none", Check.share(x, 1, 0, 2), BAD);
        Check.due("share(1, 0, -1)", Check.share(x, 1, 0, -1), BAD);
        Check.due("share(4, 0, 0)", Check.share(x, 4, 0, 0), BAD);
        Check.due("share(-1, 0, 0)", Check.share(x, -1, 0, 0), BAD);
        Check.due("share(0, -1, 0)", Check.share(x, 0, -1, 0), BAD);
        x.row(1);
        Check.due("share of a label with a row without words", Check.share(x, 1, 0, 0), Check.THROWS);
    }

    private static void weight() {
        CountLearners x = new CountLearners();
        Check.rowOf(x, 0, 1, 1);
        Check.rowOf(x, NONE, 1, 1, 2);
        Check.rowOf(x, NONE);
        Check.dueWeight(x, 1, 0, 9, 1000);
        Check.dueWeight(x, 1, 1, 0, 1);
        Check.dueWeight(x, 2, 0, 1, 1);
        Check.dueWeight(x, 0, 0, 9, 100);
        x.row(0);
        Check.dueWeight(x, 2, 0, 2, 1);
        x.row(3);
        x.addition(0, 1);
        Check.dueWeight(x, 1, 0, 0, 1);
        Check.dueWeight(x, 0, 0, 2, 1);
        // Label 3 has no shares: that is 0 for words, but does not touch a row without any.
        Check.dueWeight(x, 0, 3, 0, 1);
        Check.dueWeight(x, 2, 3, 1, 1);
        Check.due("weight(5, 0, 0)", x.weight(5, 0, 0), BAD);
        Check.due("weight(-1, 0, 0)", x.weight(-1, 0, 0), BAD);
        Check.due("weight(0, 4, 0)", x.weight(0, 4, 0), BAD);
        Check.due("weight(0, -1, 0)", x.weight(0, -1, 0), BAD);
        Check.due("weight(0, 0, 2)", x.weight(0, 0, 2), BAD);
        Check.due("weight(0, 0, -1)", x.weight(0, 0, -1), BAD);
    }

    /** The greatest numbers that a weight can have before it is brought to least terms. */
    private static void weightOfManyRows() {
        CountLearners x = new CountLearners();
        for (int i = 0; i < 40; i++) {
            Check.rowOf(x, 0, i == 0 ? 1 : 0, 0, 0, 0, 0, 0);
        }
        x.addition(2, 3);
        // 40 * (719 / 736)^6 for words 0, and once 5 / 736 in place of one 719 / 736
        Check.dueWeight(x, 1, 0, 5L * power(719, 6), power(736, 6) / 8);
        Check.dueWeight(x, 0, 0, 25L * power(719, 5), power(736, 6) / 8);
        x.addition(3, 1);
        Check.dueWeight(x, 1, 0, 5L * power(11, 6), power(12, 6) / 8);
        x.addition(3, 3);
        Check.dueWeight(x, 1, 0, 40L * power(30, 6), power(31, 6));
        CountLearners y = new CountLearners();
        for (int i = 0; i < 40; i++) {
            Check.rowOf(y, 3, 7, 7, 7, 7, 7, 7);
        }
        y.addition(3, 3);
        Check.dueWeight(y, 39, 3, 5L * power(241, 6), power(248, 6) / 8);
    }

    private static void best() {
        CountLearners x = new CountLearners();
        Check.due("best(0) without rows", x.best(0), BAD);
        Check.rowOf(x, NONE, 1);
        Check.due("best(0), nothing is counted", x.best(0), NONE);
        Check.rowOf(x, 2, 1);
        Check.rowOf(x, 1, 1);
        Check.due("best(0), the least of like ones", x.best(0), 1);
        Check.rowOf(x, 3, 1, 1);
        Check.due("best(0), the greatest", x.best(0), 3);
        Check.due("best(1), of a row with a label", x.best(1), 3);
        x.addition(0, 1);
        Check.rowOf(x, NONE, 5);
        Check.due("best(4), all are 0", x.best(4), NONE);
        CountLearners y = new CountLearners();
        Check.rowOf(y, 0, 6, 6, 0, 0, 0, 0);
        Check.rowOf(y, 1, 6);
        Check.rowOf(y, NONE, 6);
        Check.due("best(2) of 3 / 14 and 2 / 9", y.best(2), 1);
        Check.due("best(5)", x.best(5), BAD);
        Check.due("best(-1)", x.best(-1), BAD);
        for (int far : FAR) {
            Check.due("best(far)", x.best(far), BAD);
        }
    }

    /** Products across of these weights leave a long, and would then tell the wrong label. */
    private static void bestOfGreatNumbers() {
        CountLearners x = new CountLearners();
        for (int i = 0; i < 10; i++) {
            Check.rowOf(x, 0, 0, 0, 0, 0, 0, i < 1 ? 1 : 0);
            Check.rowOf(x, 1, 0, 0, 0, 0, 0, i < 3 ? 1 : 0);
        }
        Check.rowOf(x, NONE, 0, 0, 0, 0, 0, 0);
        Check.rowOf(x, NONE, 0, 0, 0, 0, 0, 1);
        x.addition(0, 1);
        Check.due("best of the common word", x.best(20), 0);
        Check.due("best with the rarer word", x.best(21), 1);
    }

    /** Like weights that doubles would tell apart, with the greater label ahead. */
    private static void bestOfLikeWeights() {
        CountLearners x = new CountLearners();
        x.addition(0, 1);
        Check.rowOf(x, 0, 1, 2, 1, 0, 1, 0);
        Check.rowOf(x, 0, 2, 0, 0, 2);
        Check.rowOf(x, 1, 0, 2);
        Check.rowOf(x, 1, 1);
        Check.rowOf(x, 1, 1, 1);
        Check.rowOf(x, NONE, 0, 1, 2);
        Check.dueWeight(x, 5, 0, 9, 125);
        Check.dueWeight(x, 5, 1, 9, 125);
        Check.due("best of like weights", x.best(5), 0);
    }

    private static long power(long base, int times) {
        long product = 1;
        for (int i = 0; i < times; i++) {
            product *= base;
        }
        return product;
    }
}
