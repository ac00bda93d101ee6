/** What the tests share: it compares answers, counts wrong ones, and ends a test. */
final class Check {
    static final long THROWS = Long.MIN_VALUE;

    private static int wrong = 0;
    private static int asked = 0;
    private static String sentence = "";

    private Check() {
    }

    /** The words of the document that the answers below are due by; they are printed with a wrong one. */
    static void sentence(String words) {
        sentence = "[" + words + "] ";
    }

    static void due(String call, long got, long want) {
        asked++;
        if (got != want) {
            wrong++;
            System.out.println(sentence + call + " answered " + told(got) + ", due is " + told(want));
        }
    }

    static void isTrue(String what, boolean holds) {
        asked++;
        if (!holds) {
            wrong++;
            System.out.println(sentence + "does not hold: " + what);
        }
    }

    static boolean isRight() {
        return wrong == 0;
    }

    static long share(CountLearners x, int label, int w, int side) {
        try {
            return x.share(label, w, side);
        } catch (ArithmeticException e) {
            return THROWS;
        }
    }

    static long at(CountLearners x, int row, int i, int state, int side) {
        try {
            return x.at(row, i, state, side);
        } catch (ArithmeticException e) {
            return THROWS;
        }
    }

    static void dueShare(CountLearners x, int label, int w, long upper, long lower) {
        String call = "share(" + label + ", " + w + ", ";
        due(call + "0)", share(x, label, w, 0), upper);
        due(call + "1)", share(x, label, w, 1), lower);
    }

    static void dueWeight(CountLearners x, int row, int label, long upper, long lower) {
        String call = "weight(" + row + ", " + label + ", ";
        due(call + "0)", x.weight(row, label, 0), upper);
        due(call + "1)", x.weight(row, label, 1), lower);
    }

    static void dueNext(CountLearners x, int t, int u, int w, long upper, long lower) {
        String call = "next(" + t + ", " + u + ", " + w + ", ";
        due(call + "0)", x.next(t, u, w, 0), upper);
        due(call + "1)", x.next(t, u, w, 1), lower);
    }

    static void dueAt(CountLearners x, int row, int i, int state, long upper, long lower) {
        String call = "at(" + row + ", " + i + ", " + state + ", ";
        due(call + "0)", at(x, row, i, state, 0), upper);
        due(call + "1)", at(x, row, i, state, 1), lower);
    }

    static void dueRule(CountLearners x, int i, int... parts) {
        for (int what = 0; what < parts.length; what++) {
            due("rule(" + i + ", " + what + ")", x.rule(i, what), parts[what]);
        }
    }

    /** A new row of these words. */
    static int rowOf(CountLearners x, int label, int... words) {
        int row = x.row(label);
        for (int w : words) {
            x.word(row, w);
        }
        return row;
    }

    static void textOf(CountLearners x, int... words) {
        for (int w : words) {
            x.text(w);
        }
    }

    static void signsOf(CountLearners x, int row, int... signs) {
        for (int s : signs) {
            x.sign(row, s);
        }
    }

    static void end() {
        System.out.println(asked + " answers, " + wrong + " not as due");
        if (wrong != 0) {
            System.exit(1);
        }
    }

    private static String told(long answer) {
        return answer == THROWS ? "throws.ArithmeticException" : String.valueOf(answer);
    }
}
