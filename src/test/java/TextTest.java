/** Promises 12 to 14: the text and its tables. */
public final class TextTest {
    private static final int NONE = CountLearners.NONE, BAD = CountLearners.BAD, FULL = CountLearners.FULL;
    private static final int[] NO_WORDS = {8, -2, Integer.MIN_VALUE, Integer.MAX_VALUE};

    public static void main(String[] args) {
        text();
        refusals();
        first();
        behindOne();
        behindTwo();
        overlaps();
        allWordsBehind();
        allWordsBehindTwo();
        likely();
        Check.end();
    }

    private static void text() {
        CountLearners x = new CountLearners();
        Check.due("text(-1)", x.text(-1), BAD);
        for (int w : NO_WORDS) {
            Check.due("text(" + w + ")", x.text(w), BAD);
        }
        for (int i = 1; i <= 60; i++) {
            Check.due("text", x.text(i % 8), i);
        }
        Check.due("text(0) of 61", x.text(0), FULL);
        Check.due("text(8) of 61", x.text(8), BAD);
        Check.due("count(2)", x.count(2), 60);
        Check.dueNext(x, NONE, NONE, 4, 9, 68);
        Check.dueNext(x, NONE, NONE, 5, 2, 17);
    }

    private static void refusals() {
        CountLearners x = new CountLearners();
        Check.textOf(x, 1, 2, 3);
        for (int no : NO_WORDS) {
            Check.due("next(" + no + ", 1, 1, 0)", x.next(no, 1, 1, 0), BAD);
            Check.due("next(1, " + no + ", 1, 0)", x.next(1, no, 1, 0), BAD);
            Check.due("next(NONE, " + no + ", 1, 0)", x.next(NONE, no, 1, 0), BAD);
            Check.due("next(" + no + ", NONE, 1, 0)", x.next(no, NONE, 1, 0), BAD);
            Check.due("next(1, 1, " + no + ", 0)", x.next(1, 1, no, 0), BAD);
            Check.due("next(1, 1, 1, " + no + ")", x.next(1, 1, 1, no), BAD);
            Check.due("likely(" + no + ", 1)", x.likely(no, 1), BAD);
            Check.due("likely(1, " + no + ")", x.likely(1, no), BAD);
            Check.due("likely(NONE, " + no + ")", x.likely(NONE, no), BAD);
            Check.due("likely(" + no + ", NONE)", x.likely(no, NONE), BAD);
        }
        Check.due("next(1, 1, NONE, 0)", x.next(1, 1, NONE, 0), BAD);
        Check.due("next(1, 1, 1, 2)", x.next(1, 1, 1, 2), BAD);
        Check.due("next(1, 1, 1, -1)", x.next(1, 1, 1, -1), BAD);
        Check.due("next(1, NONE, 1, 0)", x.next(1, NONE, 1, 0), BAD);
        Check.due("likely(0, NONE)", x.likely(0, NONE), BAD);
    }

    private static void first() {
        CountLearners x = new CountLearners();
        Check.dueNext(x, NONE, NONE, 0, 1, 8);
        Check.dueNext(x, NONE, 0, 0, 1, 8);
        Check.dueNext(x, 3, 4, 7, 1, 8);
        Check.textOf(x, 5, 5);
        Check.dueNext(x, NONE, NONE, 5, 3, 10);
        Check.dueNext(x, NONE, NONE, 0, 1, 10);
    }

    private static void behindOne() {
        CountLearners x = new CountLearners();
        Check.textOf(x, 0, 1, 0, 1, 0, 2);
        // Behind 0: 1 twice, 2 once. Unmet are 0 (4 / 14) and 3 .. 7 (1 / 14 each), together 9 / 14.
        Check.dueNext(x, NONE, 0, 1, 1, 2);
        Check.dueNext(x, NONE, 0, 2, 1, 6);
        Check.dueNext(x, NONE, 0, 0, 4, 27);
        Check.dueNext(x, NONE, 0, 7, 1, 27);
        // The last word of the text has nothing behind it.
        Check.dueNext(x, NONE, 2, 0, 2, 7);
        Check.dueNext(x, NONE, 2, 6, 1, 14);
    }

    private static void behindTwo() {
        CountLearners x = new CountLearners();
        Check.textOf(x, 0, 1, 0, 1, 0, 2);
        // Behind 1, 0: 1, 2 once each; below it stand 4 / 27 for 0, and 1 / 27 for the others unmet.
        Check.dueNext(x, 1, 0, 1, 1, 4);
        Check.dueNext(x, 1, 0, 2, 1, 4);
        Check.dueNext(x, 1, 0, 0, 2, 9);
        Check.dueNext(x, 1, 0, 3, 1, 18);
        // Nothing stands behind 0, 0, so it is as behind 0; nor behind 0, 2, so it is as the first.
        Check.dueNext(x, 0, 0, 0, 4, 27);
        Check.dueNext(x, 0, 0, 1, 1, 2);
        Check.dueNext(x, 0, 2, 0, 2, 7);
        // Behind 0, 1: 0 twice, and behind 1 the same: 1 has 3 / 10 of what is left, as in the first table.
        Check.dueNext(x, 0, 1, 0, 3, 4);
        Check.dueNext(x, 0, 1, 1, 3, 40);
        Check.dueNext(x, 0, 1, 5, 1, 40);
    }

    private static void overlaps() {
        CountLearners x = new CountLearners();
        Check.textOf(x, 4, 4, 4, 4);
        Check.dueNext(x, NONE, 4, 4, 5, 6);
        Check.dueNext(x, 4, 4, 4, 3, 4);
        Check.dueNext(x, 4, 4, 0, 1, 28);
        Check.dueNext(x, NONE, 4, 0, 1, 42);
    }

    private static void allWordsBehind() {
        CountLearners x = new CountLearners();
        Check.textOf(x, 0, 0, 1, 0, 2, 0, 3, 0, 4, 0, 5, 0, 6, 0);
        // Seven different words behind 0, once each: 7 is unmet and has all that is left.
        Check.dueNext(x, NONE, 0, 6, 1, 14);
        Check.dueNext(x, NONE, 0, 7, 1, 2);
        Check.textOf(x, 7);
        Check.dueNext(x, NONE, 0, 6, 1, 8);
        Check.dueNext(x, NONE, 0, 7, 1, 8);
        Check.textOf(x, 0, 7);
        Check.dueNext(x, NONE, 0, 6, 1, 9);
        Check.dueNext(x, NONE, 0, 7, 2, 9);
        // Behind 7, 0 stands 7: the others share half of it as they stand behind 0.
        Check.dueNext(x, 7, 0, 7, 1, 2);
        Check.dueNext(x, 7, 0, 0, 1, 14);
    }

    private static void allWordsBehindTwo() {
        CountLearners x = new CountLearners();
        for (int w = 0; w < 8; w++) {
            Check.textOf(x, 1, 2, w, 3);
        }
        Check.dueNext(x, 1, 2, 0, 1, 8);
        Check.textOf(x, 1, 2, 6);
        Check.dueNext(x, 1, 2, 6, 2, 9);
        Check.dueNext(x, 1, 2, 5, 1, 9);
    }

    private static void likely() {
        CountLearners x = new CountLearners();
        Check.due("likely(NONE, NONE), no text", x.likely(NONE, NONE), 0);
        Check.due("likely(7, 7), no text", x.likely(7, 7), 0);
        Check.textOf(x, 6, 5, 6, 3, 5);
        Check.due("likely(NONE, NONE), of like ones", x.likely(NONE, NONE), 5);
        Check.due("likely(NONE, 6), of like ones", x.likely(NONE, 6), 3);
        Check.due("likely(5, 6)", x.likely(5, 6), 3);
        Check.due("likely(6, 5)", x.likely(6, 5), 6);
        Check.due("likely(1, 1)", x.likely(1, 1), 5);
        Check.textOf(x, 6, 7, 6, 7);
        Check.due("likely(NONE, 6)", x.likely(NONE, 6), 7);
        Check.due("likely(NONE, NONE)", x.likely(NONE, NONE), 6);
        CountLearners y = new CountLearners();
        Check.textOf(y, 0, 1, 7, 1);
        Check.due("likely(NONE, NONE) of 1", y.likely(NONE, NONE), 1);
        Check.due("likely(0, 1) of 7", y.likely(0, 1), 7);
    }
}
