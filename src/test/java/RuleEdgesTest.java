/** Promises 21 and 22 and section 4 of the terms: each sentence that names a boundary case has its own method. */
public final class RuleEdgesTest {
    private static final int NONE = CountLearners.NONE, BAD = CountLearners.BAD;

    public static void main(String[] args) {
        noRules();
        supportAboveNothing();
        toAnotherWord();
        whateverLabel();
        rowsNotTimes();
        greaterSupportFirst();
        thenGreaterConfidence();
        thenLesserWords();
        confidenceInLeastTerms();
        greatestSupport();
        allRules();
        notSoMany();
        partsAsTold();
        countsOfNothing();
        countsOfTheMost();
        rowsWithALabel();
        countsAsTold();
        Check.end();
    }

    private static void noRules() {
        Check.sentence("NONE: there are not so many: none at all");
        CountLearners x = new CountLearners();
        Check.dueRule(x, 0, NONE, NONE, NONE, NONE, NONE);
        x.row(NONE);
        x.row(2);
        Check.dueRule(x, 0, NONE, NONE, NONE, NONE, NONE);
        Check.due("count(3)", x.count(3), 0);
    }

    private static void supportAboveNothing() {
        Check.sentence("RULES go from a word w to another one v, if SUPPORT is above 0");
        CountLearners x = new CountLearners();
        Check.rowOf(x, 0, 1);
        Check.rowOf(x, 0, 2);
        Check.due("count(3), no row has both", x.count(3), 0);
        x.word(0, 2);
        Check.due("count(3)", x.count(3), 2);
        // 2 stands in two rows, and so stands behind.
        Check.dueRule(x, 0, 1, 2, 1, 1, 1);
        Check.dueRule(x, 1, 2, 1, 1, 1, 2);
        Check.dueRule(x, 2, NONE, NONE, NONE, NONE, NONE);
    }

    private static void toAnotherWord() {
        Check.sentence("RULES go from a word w to another one v: none to itself");
        CountLearners x = new CountLearners();
        Check.rowOf(x, 0, 7, 7, 7, 7, 7, 7);
        Check.rowOf(x, 1, 7);
        Check.due("count(3)", x.count(3), 0);
        Check.due("rule(0, 0)", x.rule(0, 0), NONE);
    }

    private static void whateverLabel() {
        Check.sentence("the number of rows (whatever LABEL they have) that have both");
        CountLearners x = new CountLearners();
        for (int label = NONE; label <= 3; label++) {
            Check.rowOf(x, label, 0, 7);
        }
        Check.dueRule(x, 0, 0, 7, 5, 1, 1);
        x.rounds(20);
        Check.dueRule(x, 0, 0, 7, 5, 1, 1);
        x.label(4, NONE);
        x.addition(0, 1);
        Check.dueRule(x, 1, 7, 0, 5, 1, 1);
    }

    private static void rowsNotTimes() {
        Check.sentence("the number of rows: a word counts once in a row, as often as it stands there");
        CountLearners x = new CountLearners();
        Check.rowOf(x, 0, 5, 0, 5, 0, 5, 0);
        Check.rowOf(x, 0, 5, 5, 5);
        Check.dueRule(x, 0, 0, 5, 1, 1, 1);
        Check.dueRule(x, 1, 5, 0, 1, 1, 2);
        Check.due("count(3)", x.count(3), 2);
    }

    private static void greaterSupportFirst() {
        Check.sentence("They stand in order: the greater SUPPORT first");
        CountLearners x = new CountLearners();
        Check.rowOf(x, NONE, 0, 1);
        for (int i = 0; i < 2; i++) {
            Check.rowOf(x, NONE, 6, 7);
        }
        for (int i = 0; i < 7; i++) {
            Check.rowOf(x, NONE, 6);
            Check.rowOf(x, NONE, 7);
        }
        // 2 of 9 is ahead of 1 of 1
        Check.dueRule(x, 0, 6, 7, 2, 2, 9);
        Check.dueRule(x, 1, 7, 6, 2, 2, 9);
        Check.dueRule(x, 2, 0, 1, 1, 1, 1);
        Check.dueRule(x, 3, 1, 0, 1, 1, 1);
    }

    private static void thenGreaterConfidence() {
        Check.sentence("then the greater CONFIDENCE");
        CountLearners x = new CountLearners();
        Check.rowOf(x, NONE, 0, 7);
        Check.rowOf(x, NONE, 1, 6);
        Check.rowOf(x, NONE, 0);
        Check.rowOf(x, NONE, 0);
        Check.rowOf(x, NONE, 1);
        Check.dueRule(x, 0, 6, 1, 1, 1, 1);
        Check.dueRule(x, 1, 7, 0, 1, 1, 1);
        Check.dueRule(x, 2, 1, 6, 1, 1, 2);
        Check.dueRule(x, 3, 0, 7, 1, 1, 3);
    }

    private static void thenLesserWords() {
        Check.sentence("then the lesser w, then the lesser v");
        CountLearners x = new CountLearners();
        Check.rowOf(x, NONE, 7, 4, 2);
        int[][] due = {{2, 4}, {2, 7}, {4, 2}, {4, 7}, {7, 2}, {7, 4}};
        for (int i = 0; i < due.length; i++) {
            Check.dueRule(x, i, due[i][0], due[i][1], 1, 1, 1);
        }
        Check.dueRule(x, due.length, NONE, NONE);
    }

    private static void confidenceInLeastTerms() {
        Check.sentence("the upper (3) and the lower number (4) of its CONFIDENCE in least terms");
        CountLearners x = new CountLearners();
        for (int i = 0; i < 6; i++) {
            Check.rowOf(x, NONE, 3, i < 4 ? 5 : 3);
        }
        Check.dueRule(x, 0, 5, 3, 4, 1, 1);
        Check.dueRule(x, 1, 3, 5, 4, 2, 3);
    }

    private static void greatestSupport() {
        Check.sentence("SUPPORT, the number of rows: all 40");
        CountLearners x = new CountLearners();
        for (int i = 0; i < 40; i++) {
            Check.rowOf(x, i % 5 - 1, 2, 0, i < 39 ? 1 : 0);
        }
        Check.dueRule(x, 0, 0, 2, 40, 1, 1);
        Check.dueRule(x, 1, 2, 0, 40, 1, 1);
        Check.dueRule(x, 2, 1, 0, 39, 1, 1);
        Check.dueRule(x, 3, 1, 2, 39, 1, 1);
        Check.dueRule(x, 4, 0, 1, 39, 39, 40);
        Check.dueRule(x, 5, 2, 1, 39, 39, 40);
        Check.due("count(3)", x.count(3), 6);
    }

    private static CountLearners allPairs() {
        CountLearners x = new CountLearners();
        for (int w = 0; w < 8; w++) {
            for (int v = w + 1; v < 8; v++) {
                Check.rowOf(x, NONE, v, w);
            }
        }
        return x;
    }

    private static void allRules() {
        Check.sentence("the i-th RULE (from 0): as many as there can be");
        CountLearners x = allPairs();
        Check.due("count(3)", x.count(3), 56);
        for (int i = 0; i < 56; i++) {
            int v = i % 7;
            Check.dueRule(x, i, i / 7, v < i / 7 ? v : v + 1, 1, 1, 7);
        }
        Check.dueRule(x, 56, NONE, NONE, NONE, NONE, NONE);
    }

    private static void notSoMany() {
        Check.sentence("NONE: there are not so many");
        CountLearners x = new CountLearners();
        Check.rowOf(x, NONE, 3, 6);
        Check.due("rule(1, 0), the last one", x.rule(1, 0), 6);
        for (int i : new int[] {2, 3, 55, 56, 57, 64, 256, Integer.MAX_VALUE, -1, -2, Integer.MIN_VALUE}) {
            for (int what = 0; what <= 4; what++) {
                Check.due("rule(" + i + ", " + what + ")", x.rule(i, what), NONE);
            }
        }
    }

    private static void partsAsTold() {
        Check.sentence("w (what = 0), v (1), SUPPORT (2), the upper (3) and the lower number (4). BAD: what");
        CountLearners x = new CountLearners();
        for (int turn = 0; turn < 2; turn++) {
            for (int i : new int[] {0, 1, 2, -1, 56, Integer.MIN_VALUE, Integer.MAX_VALUE}) {
                for (int what : new int[] {-2, -1, 5, 6, Integer.MIN_VALUE, Integer.MAX_VALUE}) {
                    Check.due("rule(" + i + ", " + what + ")", x.rule(i, what), BAD);
                }
            }
            Check.rowOf(x, NONE, 3, 6);
        }
    }

    private static void countsOfNothing() {
        Check.sentence("How many there are: none");
        CountLearners x = new CountLearners();
        for (int what = 0; what <= 4; what++) {
            Check.due("count(" + what + ")", x.count(what), 0);
        }
    }

    private static void countsOfTheMost() {
        Check.sentence("How many rows, rows with a LABEL, words of THE TEXT, RULES, SIGNS there are: the most");
        CountLearners x = new CountLearners();
        for (int i = 0; i < 42; i++) {
            x.row(3);
        }
        Check.due("count(0)", x.count(0), 40);
        Check.due("count(1)", x.count(1), 40);
        for (int i = 0; i < 62; i++) {
            x.text(3);
        }
        Check.due("count(2)", x.count(2), 60);
        for (int i = 0; i < 28; i++) {
            x.sign(i % 4, 3);
            Check.due("count(4)", x.count(4), i < 20 ? i + 1 : 20);
        }
        Check.due("count(3)", allPairs().count(3), 56);
    }

    private static void rowsWithALabel() {
        Check.sentence("rows with a LABEL (1): one with a GUESS has none");
        CountLearners x = new CountLearners();
        Check.rowOf(x, 0, 1);
        Check.rowOf(x, NONE, 1);
        x.rounds(20);
        Check.due("guess(1)", x.guess(1), 0);
        Check.due("count(1)", x.count(1), 1);
        x.label(1, 3);
        Check.due("count(1), both", x.count(1), 2);
        x.label(0, NONE);
        x.label(1, NONE);
        Check.due("count(1), none", x.count(1), 0);
        Check.due("count(0)", x.count(0), 2);
    }

    private static void countsAsTold() {
        Check.sentence("count: BAD");
        CountLearners x = Samples.BEGUN.make();
        Check.due("count(-1)", x.count(-1), BAD);
        Check.due("count(5)", x.count(5), BAD);
        Check.due("count(MIN)", x.count(Integer.MIN_VALUE), BAD);
        Check.due("count(MAX)", x.count(Integer.MAX_VALUE), BAD);
        int[] due = {4, 2, 8, 6, 8};
        for (int what = 0; what <= 4; what++) {
            Check.due("count(" + what + ")", x.count(what), due[what]);
        }
    }
}
