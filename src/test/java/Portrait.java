import java.util.Arrays;

/**
 * All that an object tells of one section, as a row of answers: objects of like answers are alike to every
 * caller. It ends with calls that change the object, as some things are told by these alone; so it is taken
 * once of an object. It asks less than 350 calls, as an object is used for 512 at most.
 */
enum Portrait {
    ROWS, TEXT, STATES, RULES;

    private static final int NONE = CountLearners.NONE;
    private static final int MOST = 350;

    long[] of(CountLearners x) {
        Answers answers = new Answers(x);
        switch (this) {
            case ROWS:
                rows(answers);
                break;
            case TEXT:
                text(answers);
                break;
            case STATES:
                states(answers);
                break;
            default:
                rules(answers);
                break;
        }
        return answers.all();
    }

    private static void rows(Answers answers) {
        int size = (int) answers.ask("count", 0);
        answers.ask("count", 1);
        for (int label = 0; label < 4; label++) {
            for (int what = 0; what < 10; what++) {
                answers.ask("counted", label, what);
            }
            answers.ask("share", label, 1, 0);
            answers.ask("share", label, 1, 1);
        }
        for (int row = 0; row < size; row++) {
            answers.ask("guess", row);
            answers.ask("best", row);
        }
        for (int row = 0; row < size; row++) {
            answers.ask("label", row, 2);
            answers.ask("word", row, 0);
        }
        for (int w = 0; w < 8; w++) {
            answers.ask("counted", 2, w);
        }
        answers.ask("row", 0);
    }

    private static void text(Answers answers) {
        answers.ask("count", 2);
        for (int w = 0; w < 8; w++) {
            answers.ask("next", NONE, NONE, w, 0);
            answers.ask("next", NONE, NONE, w, 1);
        }
        for (int u = 0; u < 8; u++) {
            for (int w = 0; w < 8; w++) {
                answers.ask("next", NONE, u, w, 0);
                answers.ask("next", NONE, u, w, 1);
                answers.ask("likely", w, u);
                answers.ask("next", w, u, 0, 1);
            }
        }
        answers.ask("text", 0);
    }

    private static void states(Answers answers) {
        answers.ask("count", 4);
        for (int i = 0; i < 4; i++) {
            answers.ask("weigh", 0, i, 0, NONE);
            for (int j = 0; j < 4; j++) {
                answers.ask("weigh", 1, i, j, NONE);
                answers.ask("weigh", 2, i, j, NONE);
            }
        }
        for (int row = 0; row < 4; row++) {
            answers.ask("total", row);
            for (int i = 0; i < 5; i++) {
                answers.ask("path", row, i);
                for (int state = 0; state < 4; state++) {
                    answers.ask("at", row, i, state, 0);
                    answers.ask("at", row, i, state, 1);
                }
            }
        }
        for (int row = 0; row < 4; row++) {
            answers.ask("sign", row, 1);
        }
    }

    private static void rules(Answers answers) {
        answers.ask("count", 3);
        for (int i = 0; i <= 56; i++) {
            for (int what = 0; what < 5; what++) {
                answers.ask("rule", i, what);
            }
        }
    }

    private static final class Answers {
        private final CountLearners x;
        private final long[] answers = new long[MOST];
        private int size = 0;

        Answers(CountLearners x) {
            this.x = x;
        }

        long ask(String name, int... a) {
            long answer = Calls.ask(x, name, a);
            answers[size] = answer;
            size++;
            return answer;
        }

        long[] all() {
            return Arrays.copyOf(answers, size);
        }
    }
}
