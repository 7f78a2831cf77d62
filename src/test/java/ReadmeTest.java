import java.io.IOException;
import java.nio.file.Files;
import java.nio.file.Path;
import java.util.Set;
import java.util.TreeSet;
import java.util.regex.Matcher;
import java.util.regex.Pattern;

/** The examples of README.md do what they say: each call answers the number behind it. */
public final class ReadmeTest {
    private static final Check CHECK = new Check();
    private static final Pattern BLOCK = Pattern.compile("(?s)```java\n(.*?)```");
    private static final Pattern MADE = Pattern.compile(
        "TimesByPowers x = new TimesByPowers\\((\\d+), (\\d+)\\);( *// .*)?");
    private static final Pattern CALL = Pattern.compile(
        "x\\.(\\w+)\\(([^()]*)\\); *// (-?\\d+)(: .*)?");
    private static final int CALLS_OF_THE_FACE = 24;

    private final Set<String> shown = new TreeSet<>();

    public static void main(String[] args) throws IOException {
        new ReadmeTest().run();
        CHECK.end("ReadmeTest");
    }

    private void run() throws IOException {
        String text = Files.readString(Path.of(System.getProperty("project.root", "."), "README.md"));
        Matcher block = BLOCK.matcher(text);
        while (block.find()) {
            runExample(block.group(1).split("\n"));
        }
        CHECK.due("calls that an example shows: " + shown, shown.size(), CALLS_OF_THE_FACE);
        String[] told = {".ci/run", "javac", "../shared/DOC.md", "../shared/LANGUAGE.md", "512"};
        for (String word : told) {
            CHECK.holds("README.md tells of " + word, text.contains(word));
        }
    }

    private void runExample(String[] lines) {
        Matcher made = MADE.matcher(lines[0]);
        CHECK.holds("an object is made by: " + lines[0], made.matches());
        TimesByPowers x = new TimesByPowers(number(made.group(1)), number(made.group(2)));
        for (int i = 1; i < lines.length; i++) {
            Matcher call = CALL.matcher(lines[i]);
            boolean isCall = call.matches();
            CHECK.holds("a call and its answer: " + lines[i], isCall);
            if (isCall) {
                shown.add(call.group(1));
                int got = Calls.of(x, call.group(1), numbers(call.group(2)));
                CHECK.due(lines[i], got, number(call.group(3)));
            }
        }
    }

    private static int[] numbers(String told) {
        if (told.isEmpty()) {
            return new int[0];
        }
        String[] words = told.split(", ");
        int[] made = new int[words.length];
        for (int i = 0; i < words.length; i++) {
            made[i] = number(words[i]);
        }
        return made;
    }

    private static int number(String word) {
        return word.equals("TimesByPowers.NONE") ? TimesByPowers.NONE : Integer.parseInt(word);
    }
}
