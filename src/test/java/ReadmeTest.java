import java.io.IOException;
import java.lang.reflect.InvocationTargetException;
import java.lang.reflect.Method;
import java.lang.reflect.Modifier;
import java.nio.file.Files;
import java.nio.file.Path;
import java.util.Map;
import java.util.TreeMap;
import java.util.TreeSet;
import java.util.regex.Matcher;
import java.util.regex.Pattern;
import java.util.stream.Stream;

/** The example of README.md answers what README.md says, and the page names every call and test. */
public final class ReadmeTest {
    private static final Due DUE = new Due("ReadmeTest");
    private static final Pattern MADE = Pattern.compile("GrownInitials (\\w+) = new GrownInitials\\(\\);");
    private static final Pattern CALL = Pattern.compile("(\\w+)\\.(\\w+)\\(([^()]*)\\); +// (-?\\d+|true|false)(?:: (.*))?");
    private static final Map<String, GrownInitials> COMMONS = new TreeMap<>();
    private static final Map<String, Method> FACE = new TreeMap<>();

    private ReadmeTest() { }

    public static void main(String[] args) throws IOException, IllegalAccessException {
        Path page = Path.of(System.getenv().getOrDefault("GROWN_README", "README.md")).toAbsolutePath();
        String text = Files.readString(page);
        for (Method m : GrownInitials.class.getDeclaredMethods()) {
            if (Modifier.isPublic(m.getModifiers())) {
                FACE.put(m.getName(), m);
            }
        }
        example(text);
        calls(text);
        tests(text, page.getParent());
        DUE.end();
    }

    /** Every line of the example is one that is understood here: none goes unasked. */
    private static void example(String text) throws IllegalAccessException {
        Matcher block = Pattern.compile("(?s)```java\n(.*?)```").matcher(text);
        int asked = 0;
        while (block.find()) {
            COMMONS.clear();
            for (String line : block.group(1).split("\n")) {
                Matcher made = MADE.matcher(line);
                Matcher call = CALL.matcher(line);
                if (made.matches()) {
                    COMMONS.put(made.group(1), new GrownInitials());
                } else if (call.matches()) {
                    ask(line, call);
                    asked++;
                } else {
                    DUE.is("a line that is neither a call with its answer nor a comment: " + line,
                        line.isBlank() || line.startsWith("// "), true);
                }
            }
        }
        DUE.is("calls of the example: " + asked, asked >= 20, true);
    }

    private static void ask(String line, Matcher call) throws IllegalAccessException {
        GrownInitials common = COMMONS.get(call.group(1));
        Method method = FACE.get(call.group(2));
        String[] told = call.group(3).isBlank() ? new String[0] : call.group(3).split(", *");
        boolean canBe = common != null && method != null && method.getParameterCount() == told.length;
        DUE.is("there is such a call: " + line, canBe, true);
        if (!canBe) {
            return;
        }
        Object[] with = new Object[told.length];
        for (int i = 0; i < told.length; i++) {
            with[i] = number(told[i]);
        }
        try {
            String got = String.valueOf(method.invoke(common, with));
            DUE.is(line + " (it answered " + got + ")", got.equals(call.group(4)), true);
        } catch (InvocationTargetException e) {
            DUE.is(line + " threw " + e.getCause(), true, false);
        }
        String why = call.group(5);
        if (method.getName().equals("feed") && why != null && why.startsWith("\"")) {
            DUE.is(line + " (it feeds " + textOf(with) + ")", why.equals("\"" + textOf(with) + "\""), true);
        }
    }

    private static int number(String told) {
        return told.startsWith("0x") ? Integer.parseUnsignedInt(told.substring(2), 16) : Integer.parseInt(told);
    }

    /** The text of words that are fed, without the zeros that fill up. */
    private static String textOf(Object[] words) {
        StringBuilder text = new StringBuilder();
        for (Object word : words) {
            for (int shift = 24; shift >= 0; shift -= 8) {
                text.append((char) ((Integer) word >> shift & 255));
            }
        }
        return text.toString().replaceAll("\0+$", "");
    }

    private static void calls(String text) {
        for (String name : FACE.keySet()) {
            DUE.is("the page tells what `" + name + "` is for", text.contains("`" + name + "`"), true);
        }
    }

    /** The table has each test once, and by its rows each promise has one. */
    private static void tests(String text, Path home) throws IOException {
        TreeSet<String> due = new TreeSet<>();
        try (Stream<Path> files = Files.list(home.resolve("src/test/java"))) {
            files.map(f -> f.getFileName().toString()).filter(f -> f.endsWith("Test.java"))
                .forEach(f -> due.add(f.replace(".java", "")));
        }
        TreeSet<String> told = new TreeSet<>();
        TreeSet<Integer> promises = new TreeSet<>();
        Matcher row = Pattern.compile("(?m)^\\| `(\\w+Test)` \\| (.*) \\|$").matcher(text);
        while (row.find()) {
            DUE.is(row.group(1) + " stands once in the table", told.add(row.group(1)), true);
            if (row.group(2).startsWith("promise")) {
                addPromises(row.group(2), promises);
            }
        }
        DUE.is("the tests " + told + " are " + due, told.equals(due), true);
        for (int promise = 1; promise <= 32; promise++) {
            DUE.is("promise " + promise + " has a test", promises.contains(promise), true);
        }
        DUE.is("promises", promises.size(), 32);
        Matcher file = Pattern.compile("src/\\w+/java/\\w+\\.java|\\.ci/run").matcher(text);
        while (file.find()) {
            DUE.is(file.group() + " is there", Files.exists(home.resolve(file.group())), true);
        }
    }

    private static void addPromises(String asked, TreeSet<Integer> promises) {
        Matcher span = Pattern.compile("(\\d+)(?: to (\\d+))?").matcher(asked);
        while (span.find()) {
            int from = Integer.parseInt(span.group(1));
            int to = span.group(2) == null ? from : Integer.parseInt(span.group(2));
            for (int promise = from; promise <= to; promise++) {
                promises.add(promise);
            }
        }
    }
}
