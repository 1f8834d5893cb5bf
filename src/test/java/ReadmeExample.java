import java.io.IOException;
import java.nio.file.Files;
import java.nio.file.Path;
import java.util.HashMap;
import java.util.HashSet;
import java.util.List;
import java.util.Map;
import java.util.Set;
import java.util.regex.Matcher;
import java.util.regex.Pattern;

/** The example of README.md, line by line: each call gives the answer behind it, and no method is left out. */
public final class ReadmeExample {
    private static final Path README = Path.of("README.md");
    private static final String FIRST = "KegDeposits deposits = new KegDeposits();";
    private static final Pattern CALL =
            Pattern.compile("(?:int (\\w+) = )?deposits\\.(\\w+)\\(([^()]*)\\); *// (true|false|-?\\d+)(?:: .+)?");
    private static final Set<String> METHODS = Set.of("party", "kind", "price", "out", "back", "sampled",
            "share", "balance", "count", "lost", "settle", "rest", "sum");
    private static final Set<String> TRUE_OR_FALSE = Set.of("price", "out", "back", "sampled", "share");

    private final Due due = new Due("readme example");
    private final KegDeposits x = new KegDeposits();
    private final Map<String, Long> numbers = new HashMap<>();
    private final Set<String> called = new HashSet<>();

    public static void main(String[] args) throws IOException {
        new ReadmeExample().go(example(Files.readAllLines(README)));
    }

    private static List<String> example(List<String> lines) {
        int start = lines.indexOf("```java") + 1;
        int length = lines.subList(start, lines.size()).indexOf("```");
        return start == 0 || length < 0 ? List.of() : lines.subList(start, start + length);
    }

    private void go(List<String> lines) {
        due.done("the example begins with " + FIRST, !lines.isEmpty() && lines.get(0).equals(FIRST));
        for (String line : lines.subList(Math.min(1, lines.size()), lines.size())) {
            Matcher call = CALL.matcher(line);
            boolean told = call.matches();
            due.done("a call with its answer: " + line, told);
            if (!told) {
                break;
            }
            make(line, call.group(1), call.group(2), call.group(3), call.group(4));
        }
        for (String method : METHODS) {
            due.done("the example calls " + method, called.contains(method));
        }
        due.end();
    }

    private void make(String line, String name, String method, String arguments, String answer) {
        boolean trueOrFalse = answer.equals("true") || answer.equals("false");
        due.done("a boolean is told as one: " + line, trueOrFalse == TRUE_OR_FALSE.contains(method));
        long got = Call.of(method, values(arguments)).on(x);
        due.is(line, got, trueOrFalse ? (answer.equals("true") ? 1 : 0) : Long.parseLong(answer));
        called.add(method);
        if (name != null) {
            numbers.put(name, got);
        }
    }

    private long[] values(String arguments) {
        if (arguments.isEmpty()) {
            return new long[0];
        }
        String[] words = arguments.split(", ");
        long[] values = new long[words.length];
        for (int i = 0; i < words.length; i++) {
            Long number = numbers.get(words[i]);
            values[i] = number == null ? Long.parseLong(words[i]) : number;
        }
        return values;
    }
}
