import java.io.IOException;
import java.nio.file.Files;
import java.nio.file.Path;
import java.util.Set;
import java.util.TreeSet;
import java.util.regex.Matcher;
import java.util.regex.Pattern;

/** The examples of README.md, read from the file itself, so that it cannot say one thing and the test another. */
public final class ReadmeTest {
    private static final String NEW_OBJECT = "ResidueTransforms x = new ResidueTransforms();";
    private static final Pattern CALL = Pattern.compile(
        "x\\.(\\w+)\\(([^()]*)\\); +// (true|false|0|-?[1-9]\\d*)(: .*)?");
    private static final Set<String> FACE = Set.of("put", "get", "transform", "keep", "times", "root");

    private static final Check check = new Check();

    private static Subject x = null;
    private static final Set<String> called = new TreeSet<>();

    public static void main(String[] args) throws IOException {
        boolean inExample = false;
        for (String line : Files.readAllLines(Path.of("README.md"))) {
            if (line.startsWith("```")) {
                inExample = !inExample && line.equals("```java");
                x = null;
            } else if (inExample) {
                exampleLine(line);
            }
        }
        check.due("calls that README.md's examples show, " + called, called.equals(FACE), true);
        check.end();
    }

    /** Each line makes the object or is a call with its answer, so that none goes by untested. */
    private static void exampleLine(String line) {
        if (line.equals(NEW_OBJECT) && x == null) {
            x = new Subject();
            return;
        }
        Matcher call = CALL.matcher(line);
        boolean isCall = x != null && call.matches();
        check.due("README.md's line is a call on x with its answer: " + line, isCall, true);
        if (isCall) {
            String answer = answer(call.group(1), call.group(2).split(", "));
            check.due("answer is as README.md says, not " + answer + ": " + line, answer.equals(call.group(3)), true);
            called.add(call.group(1));
        }
    }

    private static String answer(String name, String[] arguments) {
        return switch (name + " of " + arguments.length) {
            case "put of 2" -> String.valueOf(x.put(number(arguments[0]), number(arguments[1])));
            case "get of 1" -> String.valueOf(x.get(number(arguments[0])));
            case "transform of 3" -> String.valueOf(
                x.transform(number(arguments[0]), number(arguments[1]), truth(arguments[2])));
            case "keep of 1" -> String.valueOf(x.keep(number(arguments[0])));
            case "times of 2" -> String.valueOf(x.times(number(arguments[0]), number(arguments[1])));
            case "root of 2" -> String.valueOf(x.root(number(arguments[0]), number(arguments[1])));
            default -> "that there is no such call";
        };
    }

    private static int number(String text) {
        return Integer.parseInt(text);
    }

    private static boolean truth(String text) {
        if (!text.equals("true") && !text.equals("false")) {
            throw new IllegalArgumentException("README.md has neither true nor false, but " + text);
        }
        return text.equals("true");
    }
}
