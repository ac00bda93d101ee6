/** Promises 1 to 11 and section 1 of the terms: each sentence that names a boundary case has its own method. */
public final class RowEdgesTest {
    private static final int NONE = CountLearners.NONE, BAD = CountLearners.BAD, FULL = CountLearners.FULL;

    public static void main(String[] args) {
        newObject();
        additionAtFirst();
        fortyRows();
        rowWithoutWords();
        labelOrNone();
        sixWords();
        whatItHad();
        additionsAsTold();
        additionsNotAsTold();
        countedWhat();
        countedRows();
        shareIsNone();
        nothingIsZeroByOne();
        leastTerms();
        wordsAsOftenAsTheyStand();
        weightOfNoShare();
        weightWithoutWords();
        theRowItselfCounts();
        exactWeights();
        bestOfLikeOnes();
        bestOfSmallWeights();
        bestIsExact();
        bestIsNone();
        bestWithALabel();
        guessIsNoneAtFirst();
        roundsAsTold();
        roundThatChangesNothing();
        moreThanTwentyRounds();
        guessesOfOneRound();
        guessesOfAllRows();
        noGuessWithALabel();
        noGuessIfNothingIsBest();
        guessesAreTakenAway();
        guessesStay();
        Check.end();
    }

    private static void newObject() {
        Check.sentence("No rows, an empty TEXT, SIGN ROWS without SIGNS, all WEIGHTS 1");
        Samples.FULL.make();
        CountLearners x = new CountLearners();
        for (int what = 0; what <= 4; what++) {
            Check.due("count(" + what + ")", x.count(what), 0);
        }
        Check.due("guess(0)", x.guess(0), BAD);
        Check.due("rule(0, 0)", x.rule(0, 0), NONE);
        for (int i = 0; i < 4; i++) {
            Check.due("counted(" + i + ", 9)", x.counted(i, 9), 0);
            Check.due("total(" + i + ")", x.total(i), 0);
            Check.due("path(" + i + ", 0)", x.path(i, 0), NONE);
            Check.due("at(" + i + ", 0, 0, 0)", Check.at(x, i, 0, 0, 0), BAD);
            Check.due("START of " + i, x.weigh(0, i, 0, NONE), 1);
            for (int j = 0; j < 4; j++) {
                Check.due("MOVE from " + i + " to " + j, x.weigh(1, i, j, NONE), 1);
                Check.due("SHOW in " + i + " of " + j, x.weigh(2, i, j, NONE), 1);
            }
        }
        Check.due("row(0)", x.row(0), 0);
        Check.due("text(0)", x.text(0), 1);
        Check.due("sign(3, 0)", x.sign(3, 0), 1);
    }

    private static void additionAtFirst() {
        Check.sentence("THE ADDITION a is a fraction up / down (1 / 1 at first)");
        CountLearners x = new CountLearners();
        Check.dueShare(x, 3, 7, 1, 8);
        Check.rowOf(x, 3, 7);
        Check.dueShare(x, 3, 7, 2, 9);
        Check.dueShare(x, 3, 0, 1, 9);
    }

    private static void fortyRows() {
        Check.sentence("ROWS 0, 1, .. (40 at most); row: its number. FULL");
        CountLearners x = new CountLearners();
        for (int row = 0; row < 40; row++) {
            Check.due("word ahead of its row", x.word(row, 0), BAD);
            Check.due("row(1)", x.row(1), row);
        }
        for (int label = NONE; label <= 3; label++) {
            Check.due("row(" + label + ") of 41", x.row(label), FULL);
        }
        Check.due("word(39, 0)", x.word(39, 0), 1);
        Check.due("word(40, 0)", x.word(40, 0), BAD);
        Check.due("count(0)", x.count(0), 40);
        Check.due("counted(1, 9)", x.counted(1, 9), 40);
    }

    private static void rowWithoutWords() {
        Check.sentence("A row without words");
        CountLearners x = new CountLearners();
        Check.rowOf(x, 0, 1, 2, 3, 4, 5, 6);
        x.row(0);
        Check.due("counted(0, 8)", x.counted(0, 8), 6);
        Check.due("word(1, 6)", x.word(1, 6), 1);
        Check.due("counted(0, 8) with it", x.counted(0, 8), 7);
    }

    private static void labelOrNone() {
        Check.sentence("a row of a LABEL, or NONE; LABELS 0 .. 3");
        CountLearners x = new CountLearners();
        Check.due("row(NONE)", x.row(NONE), 0);
        Check.due("count(1), it has none", x.count(1), 0);
        for (int label = 0; label <= 3; label++) {
            Check.due("row(" + label + ")", x.row(label), label + 1);
            Check.due("counted(" + label + ", 9)", x.counted(label, 9), 1);
        }
        Check.due("count(1)", x.count(1), 4);
        Check.due("row(4)", x.row(4), BAD);
        Check.due("row(-2)", x.row(-2), BAD);
        Check.due("count(0)", x.count(0), 5);
    }

    private static void sixWords() {
        Check.sentence("up to 6 WORDS; a word comes behind those of a row: how many it has. FULL");
        CountLearners x = new CountLearners();
        for (int row = 0; row < 40; row++) {
            x.row(2);
        }
        for (int row : new int[] {39, 0, 20}) {
            for (int i = 1; i <= 6; i++) {
                Check.due("word(" + row + ", " + i + ")", x.word(row, i), i);
            }
            Check.due("word(" + row + ", 0) of 7", x.word(row, 0), FULL);
            Check.due("word(" + row + ", 8) of 7", x.word(row, 8), BAD);
        }
        Check.due("counted(2, 8)", x.counted(2, 8), 18);
        Check.due("counted(2, 0)", x.counted(2, 0), 0);
        Check.due("counted(2, 6)", x.counted(2, 6), 3);
        Check.due("word(1, 0) beside full ones", x.word(1, 0), 1);
    }

    private static void whatItHad() {
        Check.sentence("A row has a LABEL, or NONE: what it had (NONE)");
        CountLearners x = new CountLearners();
        Check.rowOf(x, NONE, 5);
        Check.rowOf(x, 1, 5);
        int had = NONE;
        for (int from = NONE; from <= 3; from++) {
            for (int to = NONE; to <= 3; to++) {
                Check.due("label(0, " + from + ")", x.label(0, from), had);
                Check.due("label(0, " + to + ")", x.label(0, to), from);
                Check.due("counted(" + 1 + ", 9)", x.counted(1, 9), to == 1 ? 2 : 1);
                Check.due("count(1)", x.count(1), to == NONE ? 1 : 2);
                had = to;
            }
        }
        Check.due("label(1, 1), another row", x.label(1, 1), 1);
        Check.due("label(2, 0), no such row", x.label(2, 0), BAD);
        Check.due("label(0, 4)", x.label(0, 4), BAD);
        Check.due("label(0, -2)", x.label(0, -2), BAD);
        Check.due("label(0, 0) after these", x.label(0, 0), 3);
    }

    /** With one word, once: (1 + a) / (1 + 8 a), and a / (1 + 8 a) for the others. */
    private static void additionsAsTold() {
        Check.sentence("THE ADDITION: 1; up 0 .. 3, down 1 .. 3");
        CountLearners x = new CountLearners();
        Check.rowOf(x, 0, 5);
        long[][][] due = {
            {{1, 1, 0, 1}, {1, 1, 0, 1}, {1, 1, 0, 1}},
            {{2, 9, 1, 9}, {3, 10, 1, 10}, {4, 11, 1, 11}},
            {{3, 17, 2, 17}, {2, 9, 1, 9}, {5, 19, 2, 19}},
            {{4, 25, 3, 25}, {5, 26, 3, 26}, {2, 9, 1, 9}}
        };
        for (int up = 0; up <= 3; up++) {
            for (int down = 1; down <= 3; down++) {
                long[] parts = due[up][down - 1];
                Check.due("addition(" + up + ", " + down + ")", x.addition(up, down), 1);
                Check.dueShare(x, 0, 5, parts[0], parts[1]);
                Check.dueShare(x, 0, 4, parts[2], parts[3]);
            }
        }
    }

    private static void additionsNotAsTold() {
        Check.sentence("BAD: up is not 0 .. 3, down not 1 .. 3");
        CountLearners x = new CountLearners();
        Check.rowOf(x, 0, 5);
        x.addition(3, 2);
        int[][] no = {{-1, 1}, {4, 1}, {-1, 3}, {4, 3}, {0, 0}, {3, 0}, {0, 4}, {3, 4}, {1, -1}, {-1, -1}, {4, 4}};
        for (int[] a : no) {
            Check.due(Calls.told("addition", a), x.addition(a[0], a[1]), BAD);
            Check.dueShare(x, 0, 5, 5, 26);
        }
    }

    private static void countedWhat() {
        Check.sentence("the TIMES of word what (0 .. 7), its TOTAL (8), how many COUNTED rows it has (9). BAD");
        CountLearners x = new CountLearners();
        for (int w = 0; w < 8; w++) {
            int row = x.row(3);
            for (int i = 0; i < w && i < 6; i++) {
                x.word(row, w);
            }
        }
        for (int w = 0; w < 8; w++) {
            Check.due("counted(3, " + w + ")", x.counted(3, w), w < 6 ? w : 6);
            Check.due("counted(2, " + w + ")", x.counted(2, w), 0);
        }
        Check.due("counted(3, 8)", x.counted(3, 8), 27);
        Check.due("counted(3, 9)", x.counted(3, 9), 8);
        Check.due("counted(2, 8)", x.counted(2, 8), 0);
        Check.due("counted(2, 9)", x.counted(2, 9), 0);
        Check.due("counted(3, 10)", x.counted(3, 10), BAD);
        Check.due("counted(3, -1)", x.counted(3, -1), BAD);
        Check.due("counted(NONE, 9)", x.counted(NONE, 9), BAD);
        Check.due("counted(4, 9)", x.counted(4, 9), BAD);
    }

    private static void countedRows() {
        Check.sentence("COUNTED are rows with a LABEL, and those with a GUESS as of that one");
        CountLearners x = new CountLearners();
        Check.rowOf(x, 2, 1, 1);
        Check.rowOf(x, NONE, 1, 6);
        Check.due("counted(2, 9), no GUESS yet", x.counted(2, 9), 1);
        Check.due("counted(2, 6), no GUESS yet", x.counted(2, 6), 0);
        x.rounds(1);
        Check.due("counted(2, 9)", x.counted(2, 9), 2);
        Check.due("counted(2, 8)", x.counted(2, 8), 4);
        Check.due("counted(2, 6)", x.counted(2, 6), 1);
        x.rounds(20);
        Check.due("counted(2, 9), once each", x.counted(2, 9), 2);
        Check.due("count(1), a GUESS is no LABEL", x.count(1), 1);
        Check.due("label(1, NONE), it had a GUESS alone", x.label(1, NONE), NONE);
        Check.due("counted(2, 9), the GUESS is gone", x.counted(2, 9), 1);
    }

    private static void shareIsNone() {
        Check.sentence("there is none, if TOTAL + 8 a is 0");
        CountLearners x = new CountLearners();
        Check.rowOf(x, NONE, 0, 0);
        x.row(1);
        Check.dueShare(x, 1, 0, 1, 8);
        for (int down = 1; down <= 3; down++) {
            x.addition(0, down);
            for (int label = 0; label < 4; label++) {
                Check.due("share(" + label + ", 7, 0)", Check.share(x, label, 7, 0), Check.THROWS);
                Check.due("share(" + label + ", 0, 1)", Check.share(x, label, 0, 1), Check.THROWS);
            }
        }
        x.addition(1, 3);
        Check.dueShare(x, 1, 0, 1, 8);
        x.addition(0, 1);
        x.word(1, 0);
        Check.dueShare(x, 1, 0, 1, 1);
        Check.due("share(0, 0, 0), another label", Check.share(x, 0, 0, 0), Check.THROWS);
        Check.due("share(0, 8, 0)", Check.share(x, 0, 8, 0), BAD);
        Check.due("share(4, 0, 0)", Check.share(x, 4, 0, 0), BAD);
        Check.due("share(0, 0, 2)", Check.share(x, 0, 0, 2), BAD);
    }

    private static void nothingIsZeroByOne() {
        Check.sentence("nothing is 0 by 1");
        CountLearners x = new CountLearners();
        Check.rowOf(x, 0, 1, 1, 1, 2);
        Check.rowOf(x, NONE, 1, 3);
        x.addition(0, 2);
        Check.dueShare(x, 0, 3, 0, 1);
        Check.dueWeight(x, 1, 0, 0, 1);
        Check.dueWeight(x, 1, 3, 0, 1);
        x.addition(1, 2);
        Check.dueWeight(x, 1, 3, 0, 1);
    }

    private static void leastTerms() {
        Check.sentence("A SHARE is a fraction in least terms");
        CountLearners x = new CountLearners();
        Check.rowOf(x, 0, 1, 1, 1, 2);
        x.addition(2, 2);
        Check.dueShare(x, 0, 1, 1, 3);
        Check.dueShare(x, 0, 2, 1, 6);
        Check.dueShare(x, 0, 3, 1, 12);
        x.row(0);
        x.row(0);
        // 3 rows times (4 / 12)^3 * 2 / 12
        Check.dueWeight(x, 0, 0, 1, 54);
        Check.dueWeight(x, 1, 0, 3, 1);
    }

    private static void wordsAsOftenAsTheyStand() {
        Check.sentence("the SHARES in it of all words of the row, each as often as it stands in the row");
        CountLearners x = new CountLearners();
        Check.rowOf(x, 0, 1, 2);
        int row = x.row(NONE);
        long lower = 1;
        for (int i = 0; i < 6; i++) {
            Check.dueWeight(x, row, 0, 1, lower);
            x.word(row, 1);
            lower *= 5;
        }
        Check.dueWeight(x, row, 0, 1, 15625);
    }

    private static void weightOfNoShare() {
        Check.sentence("WEIGHT: 0, if one of these SHARES is none");
        CountLearners x = new CountLearners();
        x.row(1);
        Check.rowOf(x, NONE, 0);
        Check.rowOf(x, NONE, 0, 1, 2, 3, 4, 5);
        Check.dueWeight(x, 1, 1, 1, 8);
        x.addition(0, 1);
        Check.dueWeight(x, 1, 1, 0, 1);
        Check.dueWeight(x, 2, 1, 0, 1);
        Check.due("best(1)", x.best(1), NONE);
    }

    private static void weightWithoutWords() {
        Check.sentence("WEIGHT: how many COUNTED rows this has, times the SHARES of all words of the row");
        CountLearners x = new CountLearners();
        x.row(NONE);
        Check.dueWeight(x, 0, 2, 0, 1);
        x.row(2);
        x.row(2);
        Check.dueWeight(x, 0, 2, 2, 1);
        Check.dueWeight(x, 0, 1, 0, 1);
        x.addition(0, 3);
        Check.dueWeight(x, 0, 2, 2, 1);
        Check.due("best(0)", x.best(0), 2);
        Check.due("weight(3, 2, 0), no such row", x.weight(3, 2, 0), BAD);
        Check.due("weight(0, NONE, 0)", x.weight(0, NONE, 0), BAD);
        Check.due("weight(0, 4, 0)", x.weight(0, 4, 0), BAD);
        Check.due("weight(0, 2, 2)", x.weight(0, 2, 2), BAD);
    }

    private static void theRowItselfCounts() {
        Check.sentence("The row itself counts, too, if it is COUNTED");
        CountLearners x = new CountLearners();
        Check.rowOf(x, NONE, 4);
        Check.dueWeight(x, 0, 0, 0, 1);
        x.label(0, 0);
        Check.dueWeight(x, 0, 0, 2, 9);
        Check.rowOf(x, NONE, 4);
        Check.dueWeight(x, 1, 0, 2, 9);
        x.rounds(1);
        // two rows, (2 + 1) / (2 + 8)
        Check.dueWeight(x, 1, 0, 3, 5);
    }

    private static void exactWeights() {
        Check.sentence("All shares are exact");
        CountLearners x = new CountLearners();
        for (int row = 0; row < 40; row++) {
            Check.rowOf(x, 3, 7, 7, 7, 7, 7, row < 1 ? 6 : 7);
        }
        x.addition(3, 3);
        // 40 * (240 / 248)^6 = 40 * (30 / 31)^6
        Check.dueWeight(x, 39, 3, 29160000000L, 887503681L);
        x.addition(2, 3);
        // 40 * (719 / 736)^6, by 8
        Check.dueWeight(x, 39, 3, 5L * 719 * 719 * 719 * 719 * 719 * 719, 92L * 736 * 736 * 736 * 736 * 736);
    }

    private static void bestOfLikeOnes() {
        Check.sentence("BEST is the LABEL of the greatest WEIGHT, of like ones the least");
        CountLearners x = new CountLearners();
        Check.rowOf(x, NONE, 1, 2);
        for (int label = 3; label >= 0; label--) {
            Check.rowOf(x, label, 1, 2);
            Check.due("best(0) when " + label + " is the least", x.best(0), label);
        }
        Check.rowOf(x, 2, 1, 2);
        Check.due("best(0), the greatest", x.best(0), 2);
        Check.rowOf(x, 3, 1, 2);
        Check.due("best(0), two greatest", x.best(0), 2);
    }

    /** Of a word that no label has met: 1 / 10, 1 / 9, 1 / 11, 1 / 14. */
    private static void bestOfSmallWeights() {
        Check.sentence("BEST is the LABEL of the greatest WEIGHT: upper numbers are alike");
        CountLearners x = new CountLearners();
        Check.rowOf(x, 0, 1, 1);
        Check.rowOf(x, 1, 2);
        Check.rowOf(x, 2, 3, 3, 3);
        Check.rowOf(x, 3, 4, 4, 4, 4, 4, 4);
        Check.rowOf(x, NONE, 5);
        Check.dueWeight(x, 4, 1, 1, 9);
        Check.due("best(4)", x.best(4), 1);
        x.label(1, 3);
        Check.due("best(4), 2 / 15 of label 3", x.best(4), 3);
        x.label(3, NONE);
        Check.due("best(4), 1 / 9 of label 3", x.best(4), 3);
    }

    /** Like weights of labels 1 and 3; by doubles, in steps or at once, that of 3 would be above. */
    private static void bestIsExact() {
        Check.sentence("All shares are exact; BEST is of like ones the least");
        CountLearners x = new CountLearners();
        x.addition(1, 3);
        spread(x, 3, 28, 37, 3, 123);
        spread(x, 1, 4, 5, 3, 13);
        int row = Check.rowOf(x, NONE, 0, 0, 0, 0, 0, 1);
        // 28 * (112 / 497)^5 * 10 / 497, and 4 * (16 / 71)^5 * 10 / 71
        Check.dueWeight(x, row, 3, 41943040L, 128100283921L);
        Check.dueWeight(x, row, 1, 41943040L, 128100283921L);
        Check.due("best(" + row + ")", x.best(row), 1);
    }

    /** So many rows of a label with so many words 0, 1 and 2 in all, six in a row. */
    private static void spread(CountLearners x, int label, int rows, int zeros, int ones, int twos) {
        int first = x.count(0);
        for (int i = 0; i < rows; i++) {
            x.row(label);
        }
        for (int i = 0; i < zeros + ones + twos; i++) {
            x.word(first + i / 6, i < zeros ? 0 : i < zeros + ones ? 1 : 2);
        }
    }

    private static void bestIsNone() {
        Check.sentence("there is none, if all are 0");
        CountLearners x = new CountLearners();
        Check.rowOf(x, NONE, 1);
        x.row(NONE);
        Check.due("best(0), no row is COUNTED", x.best(0), NONE);
        Check.due("best(1), no row is COUNTED", x.best(1), NONE);
        Check.rowOf(x, 3, 2);
        Check.due("best(0)", x.best(0), 3);
        x.addition(0, 1);
        Check.due("best(0), 3 has not met its word", x.best(0), NONE);
        Check.due("best(1), without words", x.best(1), 3);
        Check.due("best(3), no such row", x.best(3), BAD);
        Check.due("best(-1)", x.best(-1), BAD);
    }

    private static void bestWithALabel() {
        Check.sentence("What is BEST for a row (also one with a LABEL)");
        CountLearners x = new CountLearners();
        Check.rowOf(x, 1, 6);
        Check.rowOf(x, 2, 6, 6, 6, 6);
        Check.due("best(0)", x.best(0), 2);
        Check.due("best(1)", x.best(1), 2);
        Check.due("label(0, 1), still its own", x.label(0, 1), 1);
    }

    private static void guessIsNoneAtFirst() {
        Check.sentence("a GUESS, a LABEL, too (none at first)");
        CountLearners x = new CountLearners();
        Check.rowOf(x, 0, 1);
        Check.rowOf(x, NONE, 1);
        Check.due("guess(1)", x.guess(1), NONE);
        Check.due("guess(0)", x.guess(0), NONE);
        Check.due("guess(2)", x.guess(2), BAD);
        Check.due("guess(-1)", x.guess(-1), BAD);
        Check.due("best(1)", x.best(1), 0);
        Check.due("guess(1), best gives none", x.guess(1), NONE);
    }

    /** Row 2 goes to label 1 at once, and row 3 follows in the second round; the third changes nothing. */
    private static CountLearners threeRounds() {
        CountLearners x = new CountLearners();
        Check.rowOf(x, 0, 0);
        Check.rowOf(x, 1, 1);
        Check.rowOf(x, NONE, 1, 2, 2, 2);
        Check.rowOf(x, NONE, 2);
        return x;
    }

    private static void roundsAsTold() {
        Check.sentence("ROUNDS, at most n (1 .. 20). BAD");
        for (int n = 1; n <= 20; n++) {
            CountLearners x = threeRounds();
            Check.due("rounds(" + n + ")", x.rounds(n), n < 3 ? n : 3);
            Check.due("guess(3) after rounds(" + n + ")", x.guess(3), n < 2 ? 0 : 1);
        }
        CountLearners x = threeRounds();
        Check.due("rounds(0)", x.rounds(0), BAD);
        Check.due("rounds(21)", x.rounds(21), BAD);
        Check.due("rounds(-1)", x.rounds(-1), BAD);
        Check.due("guess(2) after refusals", x.guess(2), NONE);
    }

    private static void roundThatChangesNothing() {
        Check.sentence("up to the first one that changes no GUESS: how many were done (with that one)");
        CountLearners x = new CountLearners();
        Check.due("rounds(20) without rows", x.rounds(20), 1);
        Check.due("rounds(1) without rows", x.rounds(1), 1);
        x.row(1);
        Check.due("rounds(20), all have LABELS", x.rounds(20), 1);
        x = threeRounds();
        Check.due("rounds(2)", x.rounds(2), 2);
        Check.due("rounds(20), it is the first one", x.rounds(20), 1);
        Check.due("rounds(20) again", x.rounds(20), 1);
    }

    /** Found by a search; the slow model of RandomRunsTest tells 27 rounds, too. */
    private static void moreThanTwentyRounds() {
        Check.sentence("ROUNDS, at most n (1 .. 20): more than 20 are needed");
        String[] rows = {
            "0:1020", "303", "2:40", "3:4", "3214", "14", "41401", "414", "0", "2122", "241", "00", "14311", "24",
            "0102", "02", "23", "210", "2", "32223", "204", "3", "000", "12", "31", "020", "22022", "013", "0034",
            "44", "2", "23231", "04241", "044", "430", "1:3102", "342", "342"
        };
        CountLearners x = new CountLearners();
        x.addition(2, 1);
        for (String row : rows) {
            boolean hasLabel = row.indexOf(':') >= 0;
            int[] words = row.substring(hasLabel ? 2 : 0).chars().map(c -> c - '0').toArray();
            Check.rowOf(x, hasLabel ? row.charAt(0) - '0' : NONE, words);
        }
        Check.due("rounds(20)", x.rounds(20), 20);
        Check.due("rounds(20), what is left", x.rounds(20), 7);
        Check.due("rounds(20), nothing is left", x.rounds(20), 1);
        x.addition(2, 1);
        Check.due("rounds(19)", x.rounds(19), 19);
        Check.due("rounds(7)", x.rounds(7), 7);
        Check.due("rounds(2), the last one of 27", x.rounds(2), 1);
    }

    private static void guessesOfOneRound() {
        Check.sentence("all by what is COUNTED before the round");
        CountLearners x = threeRounds();
        x.rounds(1);
        Check.due("guess(2)", x.guess(2), 1);
        Check.due("guess(3), not yet by row 2", x.guess(3), 0);
        x.rounds(1);
        Check.due("guess(3), by row 2", x.guess(3), 1);
    }

    private static void guessesOfAllRows() {
        Check.sentence("A ROUND gives each row without a LABEL as its GUESS what is BEST for it: the first, the last");
        CountLearners x = new CountLearners();
        for (int row = 0; row < 40; row++) {
            x.row(row == 20 ? 1 : NONE);
        }
        Check.due("rounds(20)", x.rounds(20), 2);
        for (int row = 0; row < 40; row++) {
            Check.due("guess(" + row + ")", x.guess(row), row == 20 ? NONE : 1);
        }
        Check.due("counted(1, 9)", x.counted(1, 9), 40);
    }

    private static void noGuessWithALabel() {
        Check.sentence("A ROUND gives each row without a LABEL as its GUESS what is BEST for it");
        CountLearners x = new CountLearners();
        Check.rowOf(x, 1, 6);
        Check.rowOf(x, 2, 6, 6, 6, 6);
        x.row(NONE);
        Check.due("rounds(20)", x.rounds(20), 2);
        Check.due("guess(0), it has a LABEL", x.guess(0), NONE);
        Check.due("guess(1), it has a LABEL", x.guess(1), NONE);
        Check.due("guess(2), without words", x.guess(2), 1);
        Check.due("counted(1, 9)", x.counted(1, 9), 2);
        Check.due("counted(2, 9)", x.counted(2, 9), 1);
    }

    private static void noGuessIfNothingIsBest() {
        Check.sentence("(none, if nothing is)");
        CountLearners x = new CountLearners();
        x.addition(0, 1);
        Check.rowOf(x, 0, 1);
        Check.rowOf(x, NONE, 2);
        Check.rowOf(x, NONE, 1);
        Check.due("rounds(20)", x.rounds(20), 2);
        Check.due("guess(1)", x.guess(1), NONE);
        Check.due("guess(2)", x.guess(2), 0);
        Check.due("counted(0, 9)", x.counted(0, 9), 2);
    }

    private static void guessesAreTakenAway() {
        Check.sentence("Each row(), word(), label(), addition() that is not refused takes all GUESSES away");
        String[] calls = {"row", "row", "word", "word", "word", "label", "label", "label", "addition", "addition"};
        int[][] a = {{NONE}, {3}, {0, 1}, {1, 2}, {2, 5}, {0, 3}, {1, NONE}, {2, 0}, {1, 1}, {0, 3}};
        for (int i = 0; i < calls.length; i++) {
            CountLearners x = guessed();
            Calls.ask(x, calls[i], a[i]);
            Check.due("guess(1) after " + Calls.told(calls[i], a[i]), x.guess(1), NONE);
            Check.due("guess(2) after " + Calls.told(calls[i], a[i]), x.guess(2), NONE);
            Check.isTrue("the guess of row 1 is COUNTED no more", x.counted(3, 4) == 1);
        }
    }

    private static CountLearners guessed() {
        CountLearners x = new CountLearners();
        Check.rowOf(x, 3, 4);
        Check.rowOf(x, NONE, 4);
        Check.rowOf(x, NONE, 5, 5, 5, 5, 5);
        x.rounds(20);
        Check.due("guess(1)", x.guess(1), 3);
        Check.due("guess(2)", x.guess(2), 3);
        return x;
    }

    private static void guessesStay() {
        Check.sentence("a refused row(), word(), label(), addition() leaves GUESSES");
        String[] calls = {"row", "row", "word", "word", "label", "label", "addition", "addition", "rounds"};
        int[][] a = {{4}, {-2}, {3, 0}, {0, 8}, {3, 0}, {0, 4}, {4, 1}, {1, 0}, {21}};
        for (int i = 0; i < calls.length; i++) {
            CountLearners x = guessed();
            Check.due(Calls.told(calls[i], a[i]), Calls.ask(x, calls[i], a[i]), BAD);
            dueGuesses(x, Calls.told(calls[i], a[i]));
        }
        CountLearners x = guessed();
        x.word(2, 5);
        x.rounds(20);
        Check.due("word(2, 5) of 7", x.word(2, 5), FULL);
        dueGuesses(x, "word(2, 5) of 7");
        for (int row = 3; row < 40; row++) {
            x.row(NONE);
        }
        x.rounds(20);
        Check.due("row(3) of 41", x.row(3), FULL);
        dueGuesses(x, "row(3) of 41");
    }

    private static void dueGuesses(CountLearners x, String call) {
        Check.due("guess(1) after " + call, x.guess(1), 3);
        Check.due("guess(2) after " + call, x.guess(2), 3);
        Check.due("counted(3, 4) after " + call, x.counted(3, 4), 2);
    }
}
