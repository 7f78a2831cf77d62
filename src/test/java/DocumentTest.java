import java.io.IOException;
import java.lang.reflect.Method;
import java.lang.reflect.Modifier;
import java.nio.file.Files;
import java.nio.file.Path;
import java.util.List;

/**
 * src/test/sentences.txt has every sentence of the document, behind "> ", and behind it the
 * tests of it, or "- " and why there is none. So a new sentence, or a test that is gone, is seen.
 */
public final class DocumentTest {
    private static final Check CHECK = new Check();

    private final StringBuilder quoted = new StringBuilder();
    private boolean inQuote = false;
    /** Of the latest sentence; at first there is none that wants a test. */
    private int named = 1;

    public static void main(String[] args) throws IOException {
        Path root = Path.of(System.getProperty("project.root", "."));
        List<String> lines = Files.readAllLines(root.resolve("src/test/sentences.txt"));
        String document = Files.readString(root.resolve("../shared/DOC.md"));
        new DocumentTest().run(lines, words(document));
        CHECK.end("DocumentTest");
    }

    /** Line ends and indents of the document are not looked at. */
    private static String words(String text) {
        return String.join(" ", text.trim().split("\\s+"));
    }

    private void run(List<String> lines, String document) {
        for (String line : lines) {
            if (line.startsWith("> ")) {
                quote(line.substring(2));
            } else if (line.isEmpty()) {
                inQuote = false;
            } else if (!line.startsWith("#")) {
                name(line);
            }
        }
        CHECK.holds("the last sentence has a test", named > 0);
        String all = words(quoted.toString());
        int same = 0;
        while (same < Math.min(all.length(), document.length())
            && all.charAt(same) == document.charAt(same)) {
            same++;
        }
        CHECK.holds("the document from here on is quoted: "
            + document.substring(same, Math.min(document.length(), same + 60)),
            all.equals(document));
    }

    private void quote(String text) {
        if (!inQuote) {
            CHECK.holds("a test ahead of: " + text, named > 0);
            named = 0;
        }
        inQuote = true;
        quoted.append(text).append(' ');
    }

    private void name(String line) {
        inQuote = false;
        named++;
        CHECK.holds(line + " is a test", line.startsWith("- ") || isTest(line));
    }

    /** Class.method, a static method that takes nothing; or a class alone, with its main(). */
    private static boolean isTest(String name) {
        int dot = name.indexOf('.');
        String type = dot < 0 ? name : name.substring(0, dot);
        String wanted = dot < 0 ? "main" : name.substring(dot + 1);
        if (!type.endsWith("Test")) {
            return false;
        }
        for (Method method : methodsOf(type)) {
            if (method.getName().equals(wanted) && Modifier.isStatic(method.getModifiers())
                && method.getParameterCount() == (dot < 0 ? 1 : 0)) {
                return true;
            }
        }
        return false;
    }

    private static Method[] methodsOf(String type) {
        try {
            return Class.forName(type).getDeclaredMethods();
        } catch (ClassNotFoundException missing) {
            return new Method[0];
        }
    }
}
