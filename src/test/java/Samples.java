/** Objects that stand at the edges of what the document tells, made anew by the same calls each time. */
enum Samples {
    /** Nothing has been called. */
    FRESH(0, 0),
    /** Some of everything, guesses too; nothing is full. */
    BEGUN(4, 2),
    /** 40 rows, the first and the last of 6 words; 60 words of text; 5 signs in each sign row. */
    FULL(40, 5),
    /** No label has shares, and the TOTAL of all sign rows is 0. */
    NOTHING(5, 2);

    private static final int NONE = CountLearners.NONE;

    final int rows;
    /** How many signs each sign row has. */
    final int places;

    Samples(int rows, int places) {
        this.rows = rows;
        this.places = places;
    }

    CountLearners make() {
        CountLearners x = new CountLearners();
        switch (this) {
            case BEGUN:
                begin(x);
                break;
            case FULL:
                fill(x);
                break;
            case NOTHING:
                weighNothing(x);
                break;
            default:
                break;
        }
        return x;
    }

    private static void begin(CountLearners x) {
        x.addition(2, 3);
        Check.rowOf(x, 0, 1, 1, 2);
        Check.rowOf(x, 3, 3, 2);
        Check.rowOf(x, NONE, 3, 1, 3);
        Check.rowOf(x, NONE);
        x.rounds(20);
        Check.textOf(x, 0, 1, 0, 1, 2, 0, 1, 7);
        for (int row = 0; row < 4; row++) {
            Check.signsOf(x, row, row, 1);
        }
        x.weigh(0, 2, 0, 3);
        x.weigh(1, 2, 1, 4);
        x.weigh(2, 1, 1, 2);
        x.weigh(2, 0, 3, 0);
    }

    private static void fill(CountLearners x) {
        for (int row = 0; row < 40; row++) {
            x.row(row % 5 - 1);
        }
        for (int i = 0; i < 6; i++) {
            x.word(0, i);
            x.word(39, 7 - i);
            x.word(i + 1, i);
        }
        x.addition(1, 2);
        x.rounds(20);
        for (int i = 0; i < 60; i++) {
            x.text((i * i + i / 7) % 8);
        }
        for (int row = 0; row < 4; row++) {
            Check.signsOf(x, row, 0, 1, 2, 3, row);
        }
        x.weigh(0, 3, 0, 21);
        x.weigh(1, 3, 2, 5);
        x.weigh(2, 2, 1, 0);
    }

    private static void weighNothing(CountLearners x) {
        for (int label = 0; label < 4; label++) {
            x.row(label);
        }
        Check.rowOf(x, NONE, 1, 5);
        x.addition(0, 1);
        Check.textOf(x, 6, 6, 7);
        for (int row = 0; row < 4; row++) {
            Check.signsOf(x, row, 3, row);
            x.weigh(0, row, 0, 0);
        }
    }
}
