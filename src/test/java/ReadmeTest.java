import java.io.IOException;
import java.nio.file.Files;
import java.nio.file.Path;
import java.util.HashMap;
import java.util.Map;
import java.util.regex.Matcher;
import java.util.regex.Pattern;

/** Makes the calls of the example in README.md: each answers what is told behind it, as in "// 144: ..". */
final class ReadmeTest {
    private static final Pattern EXAMPLE = Pattern.compile("(?s)```java\n(.*?)```");
    private static final Pattern CALL = Pattern.compile("(?:int (\\w+) = )?sheet\\.(\\w+)\\(([^)]*)\\);(.*)");
    private static final Pattern TOLD = Pattern.compile("\\s*// (true|false|\\d+|\\w+Exception)(?::| cents).*");
    private static final Due DUE = new Due();

    private final TakeoffSheet sheet = new TakeoffSheet();
    private final Map<String, String> named = new HashMap<>();
    private int told = 0;

    public static void main(String[] args) throws IOException {
        Matcher example = EXAMPLE.matcher(Files.readString(Path.of("README.md")));
        ReadmeTest test = new ReadmeTest();
        if (example.find()) {
            example.group(1).lines().forEach(test::run);
        }
        DUE.says("the example tells answers", true, test.told > 0);
        DUE.end("ReadmeTest");
    }

    private void run(String line) {
        Matcher call = CALL.matcher(line);
        if (!call.matches()) {
            boolean known = line.isBlank() || line.equals("TakeoffSheet sheet = new TakeoffSheet();");
            DUE.says("a line of the example that is known: " + line, true, known);
            return;
        }
        String answer = Calls.answer(sheet, call.group(2) + words(call.group(3)));
        Matcher comment = TOLD.matcher(call.group(4));
        boolean right = comment.matches() ? answer.equals(comment.group(1)) : !Calls.isThrown(answer);
        told += comment.matches() ? 1 : 0;
        DUE.says(line + " answers " + answer, true, right);
        if (call.group(1) != null) {
            named.put(call.group(1), answer);
        }
    }

    private String words(String arguments) {
        StringBuilder words = new StringBuilder();
        for (String argument : arguments.isEmpty() ? new String[0] : arguments.split(", ")) {
            String word = argument.replace("TakeoffSheet.", "");
            words.append(' ').append(named.getOrDefault(word, word));
        }
        return words.toString();
    }
}
