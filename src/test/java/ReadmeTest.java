import java.io.IOException;
import java.nio.file.Files;
import java.nio.file.Path;
import java.util.HashMap;
import java.util.Map;
import java.util.regex.Matcher;
import java.util.regex.Pattern;

/** The example in README.md answers what stands behind its calls. */
final class ReadmeTest {
    private static final Due DUE = new Due("ReadmeTest");
    private static final Pattern LINE = Pattern.compile(
            "(?:int (\\w+) = )?store\\.(\\w+)\\(([^)]*)\\);\\s*// ([A-Z]+|-?\\d+)\\b.*");

    public static void main(String[] args) throws IOException {
        String readme = Files.readString(Path.of("README.md"));
        String example = readme.split("```java\n")[1].split("```")[0];
        String[] lines = example.split("\n");
        DUE.yes("it makes an object", lines[0].equals("NestedStore store = new NestedStore(4);"));
        Script script = new Script(DUE, "README.md");
        script.make(4);
        Map<String, String> numbers = new HashMap<>();
        for (int i = 1; i < lines.length; i++) {
            Matcher line = LINE.matcher(lines[i]);
            DUE.yes("a call with its answer: " + lines[i], line.matches());
            if (line.matches()) {
                script.play(call(line, numbers) + " = " + line.group(4));
                numbers.put(line.group(1), line.group(4));
            }
        }
        DUE.end();
    }

    /** The call as Script reads it, with numbers for the names of transactions. */
    private static String call(Matcher line, Map<String, String> numbers) {
        StringBuilder call = new StringBuilder(line.group(2));
        for (String word : line.group(3).split("[, ]+")) {
            call.append(' ').append(numbers.getOrDefault(word, word));
        }
        return call.toString();
    }
}
