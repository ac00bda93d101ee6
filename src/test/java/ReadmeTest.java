import java.io.IOException;
import java.nio.file.Files;
import java.nio.file.Path;
import java.util.Arrays;
import java.util.List;
import java.util.Set;
import java.util.TreeSet;
import java.util.regex.Matcher;
import java.util.regex.Pattern;

/** README.md: its example is run call by call, so that no answer it tells grows old; all calls stand there. */
public final class ReadmeTest {
    private static final Pattern CALL = Pattern.compile("x\\.(\\w+)\\((.*)\\);\\s*// ([-\\w]+)(: .*)?");
    private static final Set<String> SET_UP = Set.of(
        "int NONE = CountLearners.NONE;", "CountLearners x = new CountLearners();", "");

    public static void main(String[] args) throws IOException {
        List<String> lines = Files.readAllLines(Path.of("README.md"));
        int begin = lines.indexOf("```java");
        int end = lines.lastIndexOf("```");
        Check.isTrue("README.md has an example", begin >= 0 && end > begin);
        Set<String> shown = new TreeSet<>();
        CountLearners x = new CountLearners();
        for (String line : lines.subList(begin + 1, end)) {
            if (!SET_UP.contains(line) && !line.startsWith("//")) {
                shown.add(runLine(x, line));
            }
        }
        Set<String> told = new TreeSet<>();
        for (String line : lines) {
            if (line.matches("\\| `\\w+\\(.*")) {
                told.add(line.substring(3, line.indexOf('(')));
            }
        }
        Set<String> due = new TreeSet<>(Arrays.asList(Calls.NAMES));
        Check.isTrue("the example shows every call, and not " + shown, shown.equals(due));
        Check.isTrue("the table tells every call, and not " + told, told.equals(due));
        Check.end();
    }

    /** The name of the call that stands in the line. */
    private static String runLine(CountLearners x, String line) {
        Matcher call = CALL.matcher(line);
        Check.isTrue("a call with its answer: " + line, call.matches());
        if (!call.matches()) {
            return line;
        }
        int[] a = Arrays.stream(call.group(2).split(", ")).mapToInt(text -> (int) number(text)).toArray();
        Check.due(line, Calls.ask(x, call.group(1), a), number(call.group(3)));
        return call.group(1);
    }

    private static long number(String text) {
        switch (text) {
            case "NONE": return CountLearners.NONE;
            case "BAD": return CountLearners.BAD;
            case "FULL": return CountLearners.FULL;
            case "throws": return Check.THROWS;
            default: return Long.parseLong(text);
        }
    }
}
