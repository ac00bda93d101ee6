/** The calls of the face by their names, so that a test can go through them as data. */
final class Calls {
    static final String[] NAMES = {
        "row", "word", "label", "addition", "counted", "share", "weight", "best", "rounds", "guess", "text",
        "next", "likely", "weigh", "sign", "path", "total", "at", "learn", "rule", "count"
    };

    private Calls() {
    }

    /** The answer; Check.THROWS for an ArithmeticException. Any other exception ends the test. */
    static long ask(CountLearners x, String name, int... a) {
        switch (name) {
            case "row": return x.row(a[0]);
            case "word": return x.word(a[0], a[1]);
            case "label": return x.label(a[0], a[1]);
            case "addition": return x.addition(a[0], a[1]);
            case "counted": return x.counted(a[0], a[1]);
            case "share": return Check.share(x, a[0], a[1], a[2]);
            case "weight": return x.weight(a[0], a[1], a[2]);
            case "best": return x.best(a[0]);
            case "rounds": return x.rounds(a[0]);
            case "guess": return x.guess(a[0]);
            case "text": return x.text(a[0]);
            case "next": return x.next(a[0], a[1], a[2], a[3]);
            case "likely": return x.likely(a[0], a[1]);
            case "weigh": return x.weigh(a[0], a[1], a[2], a[3]);
            case "sign": return x.sign(a[0], a[1]);
            case "path": return x.path(a[0], a[1]);
            case "total": return x.total(a[0]);
            case "at": return Check.at(x, a[0], a[1], a[2], a[3]);
            case "learn": return x.learn(a[0]);
            case "rule": return x.rule(a[0], a[1]);
            case "count": return x.count(a[0]);
            default: throw new IllegalArgumentException(name);
        }
    }

    static String told(String name, int... a) {
        StringBuilder text = new StringBuilder(name).append('(');
        for (int i = 0; i < a.length; i++) {
            text.append(i == 0 ? "" : ", ").append(a[i]);
        }
        return text.append(')').toString();
    }
}
