import java.io.IOException;
import java.lang.management.ManagementFactory;
import java.lang.reflect.Constructor;
import java.lang.reflect.Field;
import java.lang.reflect.Method;
import java.lang.reflect.Modifier;
import java.nio.file.Files;
import java.nio.file.Path;
import java.util.Arrays;
import java.util.Set;
import java.util.TreeSet;
import java.util.regex.Pattern;

/** The public face, what the language rules leave out, and how much room calls take. */
public final class FaceTest {
    private static final Check CHECK = new Check();

    /** Each call with how many ints it takes. */
    private static final Set<String> FACE = new TreeSet<>(Arrays.asList(
        "row 3", "set 3", "copy 5", "drop 1", "field 3", "world 4", "turn 3", "map 5", "clear 1",
        "told 2", "acts 3", "sum 3", "order 2", "kernel 3", "back 5", "alike 2", "stays 1",
        "kind 1", "is 2", "as 2", "ask 2", "trace 1", "count 1", "status 0"));

    private static final String[] IN_ORDER = {"---- rows", "row", "set", "copy", "drop",
        "---- the field", "field",
        "---- worlds (places: of THE SHELF; all tell the KIND of what a place has then)", "world",
        "turn", "map", "clear", "---- asked", "told", "acts", "sum", "order", "kernel", "back",
        "alike", "stays", "kind", "is", "as", "ask", "trace", "count", "status"};

    public static void main(String[] args) throws IOException {
        face();
        names();
        headings();
        words();
        room();
        CHECK.end("FaceTest");
    }

    private static void face() {
        Class<TimesByPowers> type = TimesByPowers.class;
        CHECK.holds("public and final",
            Modifier.isPublic(type.getModifiers()) && Modifier.isFinal(type.getModifiers()));
        Set<String> methods = new TreeSet<>();
        for (Method method : type.getDeclaredMethods()) {
            if (!Modifier.isPrivate(method.getModifiers())) {
                methods.add(method.getName() + " " + method.getParameterCount());
                CHECK.holds(method + " is public, of ints, and not static", isFaceMethod(method));
            }
        }
        CHECK.holds("the methods are " + methods, methods.equals(FACE));
        Set<String> fields = new TreeSet<>();
        for (Field field : type.getDeclaredFields()) {
            if (!Modifier.isPrivate(field.getModifiers())) {
                fields.add(Modifier.toString(field.getModifiers()) + " " + field.getName());
            }
        }
        CHECK.holds("the constants are " + fields, fields.equals(new TreeSet<>(Arrays.asList(
            "public static final NONE", "public static final BAD", "public static final FULL"))));
        Constructor<?>[] constructors = type.getDeclaredConstructors();
        CHECK.holds("one constructor of two ints", constructors.length == 1
            && Arrays.equals(constructors[0].getParameterTypes(), new Class<?>[] {int.class, int.class}));
        CHECK.due("NONE", TimesByPowers.NONE, -1000000);
        CHECK.due("BAD", TimesByPowers.BAD, -1000001);
        CHECK.due("FULL", TimesByPowers.FULL, -1000003);
    }

    private static boolean isFaceMethod(Method method) {
        boolean ints = method.getReturnType() == int.class;
        for (Class<?> parameter : method.getParameterTypes()) {
            ints = ints && parameter == int.class;
        }
        return ints && method.getModifiers() == Modifier.PUBLIC;
    }

    private static void names() {
        Set<String> calls = new TreeSet<>();
        for (String call : FACE) {
            calls.add(call.substring(0, call.indexOf(' ')));
        }
        Class<?>[] inside = TimesByPowers.class.getDeclaredClasses();
        CHECK.holds("some twelve classes at most", inside.length < 12);
        for (Class<?> type : inside) {
            int modifiers = type.getModifiers();
            CHECK.holds(type + " is static and not public", Modifier.isStatic(modifiers)
                && !Modifier.isPublic(modifiers) && !Modifier.isProtected(modifiers));
            for (Method method : type.getDeclaredMethods()) {
                CHECK.holds(method + " bears no call's name", !calls.contains(method.getName()));
                CHECK.holds(method + " takes seven at most", method.getParameterCount() <= 7);
            }
            int fields = 0;
            for (Field field : type.getDeclaredFields()) {
                boolean isStatic = Modifier.isStatic(field.getModifiers());
                fields += isStatic ? 0 : 1;
                CHECK.holds(field + " is final if static",
                    !isStatic || Modifier.isFinal(field.getModifiers()));
            }
            CHECK.holds(type + " has some twenty fields at most", fields <= 20);
        }
    }

    private static String source() throws IOException {
        return Files.readString(Path.of(System.getProperty("project.root", "."),
            "src", "main", "java", "TimesByPowers.java"));
    }

    /** The calls stand in the document's order, each part of them under what it says ahead. */
    private static void headings() throws IOException {
        String text = source();
        int at = 0;
        for (String part : IN_ORDER) {
            String wanted = part.startsWith("----") ? "// " + part : "public int " + part + "(";
            int next = text.indexOf(wanted, at);
            CHECK.holds(wanted + " stands in its order", next >= 0);
            at = Math.max(at, next);
        }
    }

    private static void words() throws IOException {
        String text = source()
            .replaceAll("(?s)/\\*.*?\\*/", " ").replaceAll("//[^\n]*", " ");
        String[] forbidden = {"throw", "throws", "try", "catch", "synchronized", "assert",
            "package", "double", "float", "Object", "System\\.(?!arraycopy)\\w+", "\\w+Exact",
            "protected", "hashCode", "native", "volatile", "Random", "Thread"};
        for (String word : forbidden) {
            CHECK.holds("no " + word, !Pattern.compile("\\b" + word + "\\b").matcher(text).find());
        }
        CHECK.holds("no lambda or method reference", !text.contains("->") && !text.contains("::"));
        CHECK.holds("no annotation", !text.contains("@"));
        CHECK.holds("Arrays is all that is imported",
            text.replace("import java.util.Arrays;", "").indexOf("import") < 0);
        CHECK.holds("no static block", !Pattern.compile("static\\s*\\{").matcher(text).find());
        CHECK.holds("no three dimensions", !text.contains("[][][]"));
    }

    /** A run's calls live in one room: calls that make worlds stay small, others make nothing. */
    private static void room() {
        TimesByPowers warm = new TimesByPowers(5, 6);
        askAll(warm);
        makeWorlds(warm);
        TimesByPowers x = new TimesByPowers(5, 6);
        long start = allocated();
        makeWorlds(x);
        long worlds = allocated() - start;
        start = allocated();
        askAll(x);
        long asked = allocated() - start;
        CHECK.holds("200 worlds take " + worlds + " bytes", worlds < 200 * 400);
        CHECK.holds("asking takes " + asked + " bytes", asked < 2000);
    }

    private static long allocated() {
        return ((com.sun.management.ThreadMXBean) ManagementFactory.getThreadMXBean())
            .getCurrentThreadAllocatedBytes();
    }

    private static void makeWorlds(TimesByPowers x) {
        x.row(0, 1, 4);
        x.set(0, 0, 1234);
        x.set(0, 2, 77);
        x.set(0, 3, 15624);
        for (int k = 0; k < 100; k++) {
            x.world(k % 10, 0, 0, 1 + k % 3);
            x.turn((k + 1) % 10, k % 10, 2 + k);
        }
    }

    private static void askAll(TimesByPowers x) {
        for (int place = 0; place < 10; place++) {
            for (int what = 0; what < 10; what++) {
                x.told(place, what);
            }
            x.acts(place, 78124, 15624);
            x.sum(place, 78124, 3);
            x.order(place, 15000);
            x.kernel(place, 78124, TimesByPowers.NONE);
            x.back(place, 0, 2, 1, 0);
            x.alike(place, 9 - place);
            x.stays(place);
            x.ask(place, 0);
            x.ask(place, 1);
        }
    }
}
