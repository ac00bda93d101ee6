/** Promises 10 and 11: rounds of guesses. */
public final class GuessesTest {
    private static final int NONE = CountLearners.NONE, BAD = CountLearners.BAD;

    public static void main(String[] args) {
        refusals();
        nothingToGuess();
        guessesAreCounted();
        allByTheCountsBefore();
        fewerRounds();
        changesTakeGuessesAway();
        refusedChangesKeepGuesses();
        unmetWords();
        Check.end();
    }

    private static void refusals() {
        CountLearners x = new CountLearners();
        for (int n : new int[] {0, -1, 21, Integer.MIN_VALUE, Integer.MAX_VALUE}) {
            Check.due("rounds(" + n + ")", x.rounds(n), BAD);
        }
        for (int row : new int[] {0, -1, 40, Integer.MIN_VALUE, Integer.MAX_VALUE}) {
            Check.due("guess(" + row + ")", x.guess(row), BAD);
        }
    }

    private static void nothingToGuess() {
        CountLearners x = new CountLearners();
        Check.due("rounds(1) without rows", x.rounds(1), 1);
        Check.due("rounds(20) without rows", x.rounds(20), 1);
        Check.rowOf(x, NONE, 1);
        Check.due("rounds(20), nothing is best", x.rounds(20), 1);
        Check.due("guess(0), nothing is best", x.guess(0), NONE);
        Check.rowOf(x, 2, 1);
        Check.due("guess(1) of a row with a label", x.guess(1), NONE);
        Check.due("rounds(20)", x.rounds(20), 2);
        Check.due("guess(0)", x.guess(0), 2);
        Check.due("guess(1) still", x.guess(1), NONE);
        Check.due("rounds(20) when all stands", x.rounds(20), 1);
        Check.due("guess(0) when all stands", x.guess(0), 2);
    }

    private static void guessesAreCounted() {
        CountLearners x = new CountLearners();
        Check.rowOf(x, 0, 1, 2);
        Check.rowOf(x, NONE, 1, 5);
        x.rounds(1);
        Check.due("counted(0, 5)", x.counted(0, 5), 1);
        Check.due("counted(0, 8)", x.counted(0, 8), 4);
        Check.due("counted(0, 9)", x.counted(0, 9), 2);
        Check.due("count(1) is of labels alone", x.count(1), 1);
        Check.dueShare(x, 0, 1, 1, 4);
        Check.dueWeight(x, 1, 0, 1, 12);
        Check.due("label(1, 3) had none", x.label(1, 3), NONE);
    }

    /** Row 3 would go to label 1 if the guess of row 2 were counted at once. */
    private static void allByTheCountsBefore() {
        CountLearners x = new CountLearners();
        Check.rowOf(x, 0, 0);
        Check.rowOf(x, 1, 1);
        Check.rowOf(x, NONE, 1, 2, 2, 2);
        Check.rowOf(x, NONE, 2);
        Check.due("rounds(1)", x.rounds(1), 1);
        Check.due("guess(2)", x.guess(2), 1);
        Check.due("guess(3)", x.guess(3), 0);
        Check.due("rounds(1), the second", x.rounds(1), 1);
        Check.due("guess(3) in the second", x.guess(3), 1);
        Check.due("rounds(20), the third", x.rounds(20), 1);
    }

    private static void fewerRounds() {
        CountLearners x = new CountLearners();
        Check.rowOf(x, 0, 0);
        Check.rowOf(x, 1, 1);
        Check.rowOf(x, NONE, 1, 2, 2, 2);
        Check.rowOf(x, NONE, 2);
        Check.due("rounds(2), both change", x.rounds(2), 2);
        Check.due("guess(3)", x.guess(3), 1);
        x.addition(1, 1);
        Check.due("rounds(3), the third does not", x.rounds(3), 3);
        x.addition(1, 1);
        Check.due("rounds(20), the third does not", x.rounds(20), 3);
    }

    private static CountLearners guessed() {
        CountLearners x = new CountLearners();
        Check.rowOf(x, 3, 4);
        Check.rowOf(x, NONE, 4);
        Check.rowOf(x, NONE, 5, 5, 5, 5, 5, 5);
        x.rounds(20);
        Check.due("guess(1) of guessed()", x.guess(1), 3);
        Check.due("guess(2) of guessed()", x.guess(2), 3);
        return x;
    }

    private static void dueNoGuess(String call, CountLearners x) {
        Check.due("guess(1) after " + call, x.guess(1), NONE);
        Check.due("guess(2) after " + call, x.guess(2), NONE);
    }

    private static void changesTakeGuessesAway() {
        CountLearners x = guessed();
        x.row(NONE);
        dueNoGuess("row", x);
        Check.due("counted(3, 9) after row", x.counted(3, 9), 1);
        x = guessed();
        x.word(0, 1);
        dueNoGuess("word", x);
        Check.due("counted(3, 8) after word", x.counted(3, 8), 2);
        x = guessed();
        x.label(0, 3);
        dueNoGuess("label", x);
        x = guessed();
        x.label(1, NONE);
        dueNoGuess("label NONE", x);
        x = guessed();
        x.addition(1, 1);
        dueNoGuess("addition", x);
        Check.due("counted(3, 9) after addition", x.counted(3, 9), 1);
    }

    private static void refusedChangesKeepGuesses() {
        CountLearners x = guessed();
        x.row(4);
        x.word(0, 8);
        x.word(2, 0);
        x.word(3, 0);
        x.label(0, 4);
        x.label(3, 0);
        x.addition(4, 1);
        x.addition(1, 0);
        x.rounds(0);
        x.text(1);
        x.sign(0, 1);
        x.learn(2);
        Check.due("guess(1) after refusals", x.guess(1), 3);
        Check.due("guess(2) after refusals", x.guess(2), 3);
        Check.due("counted(3, 9) after refusals", x.counted(3, 9), 3);
        for (int row = 3; row < 40; row++) {
            x.row(NONE);
        }
        x.rounds(20);
        Check.due("row(0), full", x.row(0), CountLearners.FULL);
        Check.due("guess(39) after FULL", x.guess(39), 3);
    }

    /** Without an addition a word that a label has not met leaves the row without a guess. */
    private static void unmetWords() {
        CountLearners x = new CountLearners();
        x.addition(0, 1);
        Check.rowOf(x, 0, 1);
        Check.rowOf(x, NONE, 1, 2);
        Check.due("rounds(5), a word is unmet", x.rounds(5), 1);
        Check.due("guess(1)", x.guess(1), NONE);
        Check.rowOf(x, 0, 2);
        Check.due("rounds(5), all words are met", x.rounds(5), 2);
        Check.due("guess(1) of met words", x.guess(1), 0);
        Check.dueWeight(x, 1, 0, 3, 4);
    }
}
