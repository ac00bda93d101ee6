/** Promises 21 and 22: rules between words, and what there is. */
public final class RulesTest {
    private static final int NONE = CountLearners.NONE, BAD = CountLearners.BAD;

    public static void main(String[] args) {
        refusals();
        order();
        laterWordsMayStandFirst();
        wordsCountOnceInARow();
        allRules();
        count();
        Check.end();
    }

    private static void refusals() {
        CountLearners x = new CountLearners();
        for (int what : new int[] {-1, 5, Integer.MIN_VALUE, Integer.MAX_VALUE}) {
            Check.due("rule(0, " + what + ")", x.rule(0, what), BAD);
            Check.due("rule(-1, " + what + ")", x.rule(-1, what), BAD);
            Check.due("count(" + what + ")", x.count(what), BAD);
        }
        Check.rowOf(x, NONE, 3, 6);
        for (int i : new int[] {-1, 2, Integer.MIN_VALUE, Integer.MAX_VALUE}) {
            Check.due("rule(" + i + ", 0)", x.rule(i, 0), NONE);
            Check.due("rule(" + i + ", 4)", x.rule(i, 4), NONE);
            Check.due("rule(" + i + ", 5)", x.rule(i, 5), BAD);
        }
    }

    private static void order() {
        CountLearners x = new CountLearners();
        Check.rowOf(x, 0, 1, 2);
        Check.rowOf(x, NONE, 2, 1, 4);
        Check.rowOf(x, 3, 2);
        Check.rowOf(x, 3, 2);
        // SUPPORT 2: 1 to 2 (2 of 2) ahead of 2 to 1 (2 of 4). SUPPORT 1: 4 (1 of 1), 1 (1 of 2), 2 (1 of 4).
        Check.dueRule(x, 0, 1, 2, 2, 1, 1);
        Check.dueRule(x, 1, 2, 1, 2, 1, 2);
        Check.dueRule(x, 2, 4, 1, 1, 1, 1);
        Check.dueRule(x, 3, 4, 2, 1, 1, 1);
        Check.dueRule(x, 4, 1, 4, 1, 1, 2);
        Check.dueRule(x, 5, 2, 4, 1, 1, 4);
        Check.dueRule(x, 6, NONE, NONE, NONE, NONE, NONE);
        Check.due("count(3)", x.count(3), 6);
        Check.rowOf(x, NONE, 7, 4);
        // Now 4 stands in two rows, and 7 in one.
        Check.dueRule(x, 2, 7, 4, 1, 1, 1);
        Check.dueRule(x, 3, 1, 4, 1, 1, 2);
        Check.dueRule(x, 4, 4, 1, 1, 1, 2);
        Check.dueRule(x, 6, 4, 7, 1, 1, 2);
        Check.dueRule(x, 7, 2, 4, 1, 1, 4);
    }

    private static void laterWordsMayStandFirst() {
        CountLearners x = new CountLearners();
        Check.rowOf(x, NONE, 0, 1);
        Check.rowOf(x, NONE, 7, 6);
        Check.rowOf(x, NONE, 6, 7);
        Check.dueRule(x, 0, 6, 7, 2, 1, 1);
        Check.dueRule(x, 1, 7, 6, 2, 1, 1);
        Check.dueRule(x, 2, 0, 1, 1, 1, 1);
        Check.dueRule(x, 3, 1, 0, 1, 1, 1);
    }

    private static void wordsCountOnceInARow() {
        CountLearners x = new CountLearners();
        Check.rowOf(x, 0, 5, 5, 5);
        Check.due("count(3), no rule from a word to itself", x.count(3), 0);
        Check.due("rule(0, 0)", x.rule(0, 0), NONE);
        Check.rowOf(x, 0, 5, 0, 5, 0);
        Check.dueRule(x, 0, 0, 5, 1, 1, 1);
        Check.dueRule(x, 1, 5, 0, 1, 1, 2);
        Check.due("count(3)", x.count(3), 2);
    }

    private static void allRules() {
        CountLearners x = new CountLearners();
        for (int w = 0; w < 8; w++) {
            for (int v = w + 1; v < 8; v++) {
                Check.rowOf(x, NONE, w, v);
            }
        }
        Check.due("count(3), all pairs", x.count(3), 56);
        for (int i = 0; i < 56; i++) {
            int v = i % 7;
            Check.dueRule(x, i, i / 7, v < i / 7 ? v : v + 1, 1, 1, 7);
        }
        Check.due("rule(56, 0)", x.rule(56, 0), NONE);
    }

    private static void count() {
        CountLearners x = new CountLearners();
        Check.rowOf(x, 0, 1, 2, 3);
        Check.rowOf(x, NONE, 1);
        Check.rowOf(x, 3);
        Check.textOf(x, 1, 1, 1, 1);
        Check.signsOf(x, 0, 1, 1);
        Check.signsOf(x, 3, 0, 1, 2);
        x.rounds(3);
        Check.due("count(0)", x.count(0), 3);
        Check.due("count(1)", x.count(1), 2);
        Check.due("count(2)", x.count(2), 4);
        Check.due("count(3)", x.count(3), 6);
        Check.due("count(4)", x.count(4), 5);
        x.label(0, NONE);
        Check.due("count(1) after label", x.count(1), 1);
    }
}
