import java.math.BigInteger;

/** Promises 12 to 14 and section 2 of the terms: each sentence that names a boundary case has its own method. */
public final class TextEdgesTest {
    private static final int NONE = CountLearners.NONE, BAD = CountLearners.BAD, FULL = CountLearners.FULL;

    public static void main(String[] args) {
        sixtyWords();
        wordsAsTold();
        emptyText();
        firstTable();
        nothingBehind();
        lastWords();
        firstWords();
        wordsOverlap();
        handedDownTwice();
        onceBehind();
        allEight();
        sevenOfEight();
        eightBelow();
        restOfTheTableBelow();
        sumToOne();
        tablesAsTold();
        likelyOfLikeOnes();
        likelyOfUnmetWords();
        likelyTablesAsTold();
        Check.end();
    }

    private static void sixtyWords() {
        Check.sentence("THE TEXT has up to 60 WORDS; text: how many it has. FULL");
        CountLearners x = new CountLearners();
        for (int i = 1; i <= 60; i++) {
            Check.due("text(" + (i < 60 ? 3 : 5) + ")", x.text(i < 60 ? 3 : 5), i);
        }
        for (int w = 0; w < 8; w++) {
            Check.due("text(" + w + ") of 61", x.text(w), FULL);
        }
        Check.due("text(8) of 61", x.text(8), BAD);
        Check.due("text(-1) of 61", x.text(-1), BAD);
        Check.due("count(2)", x.count(2), 60);
        // The last word is met: 58 times 3 and once 5 stand behind 3, and nothing behind 5.
        Check.dueNext(x, NONE, NONE, 3, 15, 17);
        Check.dueNext(x, NONE, NONE, 5, 1, 34);
        Check.dueNext(x, NONE, 3, 3, 115, 118);
        Check.dueNext(x, NONE, 3, 5, 1, 118);
        Check.dueNext(x, 3, 3, 5, 1, 116);
        Check.dueNext(x, NONE, 5, 3, 15, 17);
    }

    private static void wordsAsTold() {
        Check.sentence("WORDS are 0 .. 7");
        CountLearners x = new CountLearners();
        Check.due("text(0)", x.text(0), 1);
        Check.due("text(7)", x.text(7), 2);
        Check.due("text(8)", x.text(8), BAD);
        Check.due("text(NONE)", x.text(NONE), BAD);
        Check.due("count(2)", x.count(2), 2);
        Check.dueNext(x, NONE, 0, 7, 1, 2);
    }

    private static void emptyText() {
        Check.sentence("(how often it stands in THE TEXT, and 1) / (how many words this has, and 8): an empty TEXT");
        CountLearners x = new CountLearners();
        for (int w = 0; w < 8; w++) {
            Check.dueNext(x, NONE, NONE, w, 1, 8);
            Check.dueNext(x, NONE, w, 7 - w, 1, 8);
            Check.dueNext(x, w, w, w, 1, 8);
        }
        Check.due("likely(NONE, NONE)", x.likely(NONE, NONE), 0);
        Check.due("likely(7, 7)", x.likely(7, 7), 0);
    }

    private static void firstTable() {
        Check.sentence("The FIRST table");
        CountLearners x = new CountLearners();
        for (int n = 1; n <= 8; n++) {
            x.text(6);
            long divisor = BigInteger.valueOf(n + 1).gcd(BigInteger.valueOf(n + 8)).longValue();
            Check.dueNext(x, NONE, NONE, 6, (n + 1) / divisor, (n + 8) / divisor);
            Check.dueNext(x, NONE, NONE, 0, 1, n + 8);
        }
    }

    private static void nothingBehind() {
        Check.sentence("of the table below, if c is 0");
        CountLearners x = new CountLearners();
        x.text(2);
        Check.dueNext(x, NONE, 2, 2, 2, 9);
        Check.dueNext(x, NONE, 2, 0, 1, 9);
        Check.dueNext(x, 2, 2, 2, 2, 9);
        x.text(3);
        // Behind 2 stands 3; behind 2, 3 and 2, 2 nothing does.
        Check.dueNext(x, NONE, 2, 3, 1, 2);
        Check.dueNext(x, 2, 2, 3, 1, 2);
        Check.dueNext(x, 2, 2, 2, 1, 8);
        Check.dueNext(x, 2, 3, 3, 1, 5);
        Check.dueNext(x, NONE, 3, 3, 1, 5);
    }

    private static void lastWords() {
        Check.sentence("words right behind it in THE TEXT: the last words have none");
        CountLearners x = new CountLearners();
        Check.textOf(x, 1, 2, 3, 1, 2);
        // 3 once behind 1, 2, though 1, 2 stands twice.
        Check.dueNext(x, 1, 2, 3, 1, 2);
        Check.dueNext(x, NONE, 2, 3, 1, 2);
        x.text(4);
        Check.dueNext(x, 1, 2, 3, 1, 4);
        Check.dueNext(x, 1, 2, 4, 1, 4);
    }

    private static void firstWords() {
        Check.sentence("behind two words t, u, one behind the other: at the beginning of THE TEXT");
        CountLearners x = new CountLearners();
        Check.textOf(x, 5, 6);
        // 6 stands behind 5, but 5 behind no word, and so nothing behind two.
        Check.dueNext(x, NONE, 5, 6, 1, 2);
        Check.dueNext(x, 0, 5, 6, 1, 2);
        Check.dueNext(x, 6, 5, 6, 1, 2);
        Check.dueNext(x, 0, 5, 7, 1, 16);
        x.text(7);
        Check.dueNext(x, 5, 6, 7, 1, 2);
        // Handed down twice, without 7 both times: 0 .. 4 have one of 9 parts of 1 / 2, 5 and 6 have two.
        Check.dueNext(x, 5, 6, 0, 1, 18);
        Check.dueNext(x, 5, 6, 6, 1, 9);
    }

    private static void wordsOverlap() {
        Check.sentence("words right behind it in THE TEXT, c in all: pairs that overlap");
        CountLearners x = new CountLearners();
        Check.textOf(x, 0, 0, 0, 0, 1);
        // Behind 0: 0 three times, 1 once; behind 0, 0: 0 twice, 1 once.
        Check.dueNext(x, NONE, 0, 0, 5, 8);
        Check.dueNext(x, NONE, 0, 1, 1, 8);
        Check.dueNext(x, 0, 0, 0, 1, 2);
        Check.dueNext(x, 0, 0, 1, 1, 6);
        Check.dueNext(x, 0, 0, 7, 1, 18);
    }

    private static void handedDownTwice() {
        Check.sentence("The table BEHIND u is below that BEHIND t, u; the FIRST one is below that BEHIND u");
        CountLearners x = new CountLearners();
        Check.textOf(x, 4, 4, 5);
        // FIRST: 4 has 3 of 11 parts, 5 has 2, the others 1. Nothing behind 5, nor behind 7, 5.
        Check.dueNext(x, 7, 5, 4, 3, 11);
        Check.dueNext(x, 7, 5, 0, 1, 11);
        // Behind 4 stand 4 and 5, 1 / 4 each; the six others share 1 / 2. Behind 7, 4 nothing does.
        Check.dueNext(x, 7, 4, 0, 1, 12);
        Check.dueNext(x, 7, 4, 4, 1, 4);
        // Behind 4, 4 stands 5: 4 has 1 / 4 of 3 / 4 below, so 1 / 3 of 1 / 2.
        Check.dueNext(x, 4, 4, 5, 1, 2);
        Check.dueNext(x, 4, 4, 4, 1, 6);
        Check.dueNext(x, 4, 4, 0, 1, 18);
    }

    private static void onceBehind() {
        Check.sentence("(2 n - 1) / (2 c), if it stands there n times, n above 0");
        CountLearners x = new CountLearners();
        Check.textOf(x, 1, 2);
        for (int n = 1; n <= 10; n++) {
            Check.dueNext(x, NONE, 1, 2, leastUpper(2 * n - 1, 2 * n), leastLower(2 * n - 1, 2 * n));
            Check.textOf(x, 1, 2);
        }
        x.text(1);
        x.text(3);
        // 11 times 2, and once 3
        Check.dueNext(x, NONE, 1, 2, 7, 8);
        Check.dueNext(x, NONE, 1, 3, 1, 24);
    }

    private static void allEight() {
        Check.sentence("n / c, if k is 8");
        CountLearners x = new CountLearners();
        for (int w = 0; w < 8; w++) {
            Check.textOf(x, 1, 2, w);
        }
        for (int w = 0; w < 8; w++) {
            Check.dueNext(x, 1, 2, w, 1, 8);
        }
        Check.textOf(x, 1, 2, 5);
        for (int w = 0; w < 8; w++) {
            Check.dueNext(x, 1, 2, w, w == 5 ? 2 : 1, 9);
        }
        // The 2 behind 1, 2 has a 1 behind it, so behind 2 stand ten words in all, 1 and 5 twice.
        Check.dueNext(x, NONE, 2, 1, 1, 5);
        Check.dueNext(x, NONE, 2, 5, 1, 5);
        Check.dueNext(x, NONE, 2, 7, 1, 10);
    }

    private static void sevenOfEight() {
        Check.sentence("else k / (2 c) times its SHARE below by the sum of the SHARES there: one word does not stand");
        CountLearners x = new CountLearners();
        Check.textOf(x, 0, 0, 1, 0, 2, 0, 3, 0, 4, 0, 5, 0, 6);
        Check.dueNext(x, NONE, 0, 7, 1, 2);
        for (int w = 0; w < 7; w++) {
            Check.dueNext(x, NONE, 0, w, 1, 14);
        }
        Check.textOf(x, 0, 6);
        Check.dueNext(x, NONE, 0, 7, 7, 16);
        Check.dueNext(x, NONE, 0, 6, 3, 16);
        Check.dueNext(x, NONE, 0, 0, 1, 16);
    }

    private static void eightBelow() {
        Check.sentence("n / c, if k is 8: in the table below");
        CountLearners x = new CountLearners();
        Check.textOf(x, 0, 0, 1, 0, 2, 0, 3, 0, 4, 0, 5, 0, 6, 0, 7, 0, 7);
        Check.dueNext(x, NONE, 0, 7, 2, 9);
        Check.dueNext(x, NONE, 0, 0, 1, 9);
        // Behind 6, 0 stands 7: the others have 1 of 7 parts of 1 / 2 each.
        Check.dueNext(x, 6, 0, 7, 1, 2);
        Check.dueNext(x, 6, 0, 0, 1, 14);
        // Behind 1, 0 stands 2: 7 has 2 of 8 parts.
        Check.dueNext(x, 1, 0, 7, 1, 8);
        Check.dueNext(x, 1, 0, 3, 1, 16);
    }

    private static void restOfTheTableBelow() {
        Check.sentence("by the sum of the SHARES there of all words that do not stand BEHIND it");
        CountLearners x = new CountLearners();
        Check.textOf(x, 0, 1, 0, 1, 0, 2);
        // Behind 0: 1 twice, 2 once. Unmet are 0 (4 / 14) and 3 .. 7 (1 / 14 each), together 9 / 14.
        Check.dueNext(x, NONE, 0, 0, 4, 27);
        Check.dueNext(x, NONE, 0, 3, 1, 27);
        Check.dueNext(x, 1, 0, 0, 2, 9);
        Check.dueNext(x, 1, 0, 3, 1, 18);
    }

    private static void sumToOne() {
        Check.sentence("tables of one, two and three words of a text, which sum to one");
        for (int kind = 0; kind < 8; kind++) {
            for (int t = NONE; t < 8; t++) {
                CountLearners x = new CountLearners();
                for (int i = 0; i < 60; i++) {
                    x.text((i * i * (kind + 1) + i / (kind + 2)) % (kind + 1));
                }
                for (int u = t == NONE ? NONE : 0; u < 8; u++) {
                    dueSum(x, t, u);
                }
            }
        }
    }

    private static void dueSum(CountLearners x, int t, int u) {
        BigInteger upper = BigInteger.ZERO;
        BigInteger lower = BigInteger.ONE;
        for (int w = 0; w < 8; w++) {
            BigInteger a = BigInteger.valueOf(x.next(t, u, w, 0));
            BigInteger b = BigInteger.valueOf(x.next(t, u, w, 1));
            Check.isTrue("next(" + t + ", " + u + ", " + w + ") is above 0, in least terms",
                a.signum() > 0 && b.signum() > 0 && a.gcd(b).equals(BigInteger.ONE));
            upper = upper.multiply(b).add(a.multiply(lower));
            lower = lower.multiply(b);
        }
        Check.isTrue("the table behind " + t + ", " + u + " sums to one", upper.equals(lower));
    }

    private static void tablesAsTold() {
        Check.sentence("BEHIND u (t is NONE); in the FIRST one (both are NONE). BAD: also u NONE alone");
        CountLearners x = new CountLearners();
        Check.textOf(x, 0, 1, 2, 0, 1, 3);
        for (int t = 0; t < 8; t++) {
            Check.due("next(" + t + ", NONE, 0, 0)", x.next(t, NONE, 0, 0), BAD);
            Check.due("next(" + t + ", NONE, 0, 1)", x.next(t, NONE, 0, 1), BAD);
            Check.isTrue("next(NONE, " + t + ", 0, 0) is told", x.next(NONE, t, 0, 0) > 0);
            Check.isTrue("next(7, " + t + ", 0, 0) is told", x.next(7, t, 0, 0) > 0);
        }
        Check.dueNext(x, NONE, NONE, 0, 3, 14);
        Check.dueNext(x, NONE, 1, 2, 1, 4);
        Check.dueNext(x, 0, 1, 3, 1, 4);
        Check.due("next(-2, NONE, 0, 0)", x.next(-2, NONE, 0, 0), BAD);
        Check.due("next(8, NONE, 0, 0)", x.next(8, NONE, 0, 0), BAD);
        Check.due("next(NONE, -2, 0, 0)", x.next(NONE, -2, 0, 0), BAD);
        Check.due("next(NONE, 8, 0, 0)", x.next(NONE, 8, 0, 0), BAD);
        Check.due("next(0, 1, NONE, 0)", x.next(0, 1, NONE, 0), BAD);
        Check.due("next(0, 1, 8, 0)", x.next(0, 1, 8, 0), BAD);
        Check.due("next(0, 1, 2, 2)", x.next(0, 1, 2, 2), BAD);
        Check.due("next(0, 1, 2, -1)", x.next(0, 1, 2, -1), BAD);
    }

    private static void likelyOfLikeOnes() {
        Check.sentence("The word of the greatest SHARE in such a table, of like ones the least");
        CountLearners x = new CountLearners();
        for (int w = 7; w >= 0; w--) {
            x.text(w);
            Check.due("likely(NONE, NONE) when " + w + " is the least", x.likely(NONE, NONE), w);
        }
        Check.textOf(x, 5, 3, 5, 3);
        Check.due("likely(NONE, NONE)", x.likely(NONE, NONE), 3);
        // Behind 5: 4 once, 3 twice; behind 3: 2 once, 5 once; behind 5, 3: 5 once.
        Check.due("likely(NONE, 5)", x.likely(NONE, 5), 3);
        Check.due("likely(NONE, 3)", x.likely(NONE, 3), 2);
        Check.due("likely(5, 3)", x.likely(5, 3), 5);
        Check.due("likely(4, 3)", x.likely(4, 3), 2);
    }

    /** A word that does not stand behind 0 may have more than each of those that do. */
    private static void likelyOfUnmetWords() {
        Check.sentence("The word of the greatest SHARE: one that is handed down");
        CountLearners x = new CountLearners();
        Check.textOf(x, 0, 1, 7, 7, 7, 7, 7, 7, 0, 2, 7, 7, 7);
        // Behind 0: 1 and 2 once each, 1 / 4. Of the other half 7 has 10 of 17 parts, 0 has 3, and 3 .. 6 one each.
        Check.dueNext(x, NONE, 0, 1, 1, 4);
        Check.dueNext(x, NONE, 0, 7, 5, 17);
        Check.due("likely(NONE, 0)", x.likely(NONE, 0), 7);
    }

    private static void likelyTablesAsTold() {
        Check.sentence("likely: BAD, likewise");
        CountLearners x = new CountLearners();
        Check.textOf(x, 0, 1);
        for (int t = 0; t < 8; t++) {
            Check.due("likely(" + t + ", NONE)", x.likely(t, NONE), BAD);
            Check.isTrue("likely(NONE, " + t + ") is told", x.likely(NONE, t) >= 0);
            Check.isTrue("likely(7, " + t + ") is told", x.likely(7, t) >= 0);
        }
        Check.due("likely(NONE, NONE)", x.likely(NONE, NONE), 0);
        Check.due("likely(-2, NONE)", x.likely(-2, NONE), BAD);
        Check.due("likely(8, NONE)", x.likely(8, NONE), BAD);
        Check.due("likely(NONE, -2)", x.likely(NONE, -2), BAD);
        Check.due("likely(NONE, 8)", x.likely(NONE, 8), BAD);
        Check.due("likely(8, 0)", x.likely(8, 0), BAD);
        Check.due("likely(0, 8)", x.likely(0, 8), BAD);
    }

    private static long leastUpper(long upper, long lower) {
        return upper / BigInteger.valueOf(upper).gcd(BigInteger.valueOf(lower)).longValue();
    }

    private static long leastLower(long upper, long lower) {
        return lower / BigInteger.valueOf(upper).gcd(BigInteger.valueOf(lower)).longValue();
    }
}
