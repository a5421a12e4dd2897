import java.io.IOException;
import java.lang.management.ManagementFactory;
import java.lang.reflect.Field;
import java.lang.reflect.Method;
import java.lang.reflect.Modifier;
import java.nio.file.Files;
import java.nio.file.Path;
import java.util.ArrayList;
import java.util.Arrays;
import java.util.List;
import java.util.TreeSet;
import java.util.regex.Matcher;
import java.util.regex.Pattern;

/** The face, and the rules of LANGUAGE.md as far as a program can see them. */
public final class LanguageTest {
    private static final Due DUE = new Due("LanguageTest");
    private static final String FACE = "boolean home(int,int,int) int feed(int,int,int,int,int) int law(int) int bark(int) "
        + "int seasons(int) int tried(int,int) int cutIs(int,int) int meet(int,int,int) int roots(int,int) int single(int) "
        + "int who(int) int letters() int nearest(int,int) int strays(int,int) int dates(int) int busiest(int) "
        + "int yard(int,int,int,int) int groups(int,int) int fence(int) int crossing() int paths() int trees() "
        + "int round(int,int) int words(int,int) int marriages(int,int) int orders(int,int,int) boolean seed(int) "
        + "int keep() boolean undo() int check(int) int count(int)";

    public static void main(String[] args) throws IOException {
        face();
        classes();
        String source = Files.readString(Path.of(System.getenv().getOrDefault("GROWN_SOURCE",
            "src/main/java/GrownInitials.java")));
        words(source);
        lengths(source);
        room();
        DUE.end();
    }

    private static void face() {
        TreeSet<String> due = new TreeSet<>(Arrays.asList(FACE.replace(") ", ")\n").split("\n")));
        TreeSet<String> got = new TreeSet<>();
        TreeSet<String> names = new TreeSet<>();
        for (Method m : GrownInitials.class.getDeclaredMethods()) {
            if (Modifier.isPrivate(m.getModifiers())) {
                continue;
            }
            List<String> types = new ArrayList<>();
            for (Class<?> type : m.getParameterTypes()) {
                types.add(type.getName());
            }
            got.add(m.getReturnType() + " " + m.getName() + "(" + String.join(",", types) + ")");
            names.add(m.getName());
        }
        DUE.is("the face " + got, got.equals(due), true);
        DUE.is("public and final", GrownInitials.class.getModifiers(), Modifier.PUBLIC | Modifier.FINAL);
        DUE.is("constructors", GrownInitials.class.getConstructors().length, 1);
        DUE.is("fields of the face", GrownInitials.class.getFields().length, 1);
        for (Class<?> type : all()) {
            for (Method m : type.getDeclaredMethods()) {
                boolean isFace = type == GrownInitials.class && Modifier.isPublic(m.getModifiers());
                DUE.is(type + " " + m.getName() + " has a name of the face", !isFace && names.contains(m.getName()), false);
                DUE.is(m + " parameters", m.getParameterCount() <= 7, true);
            }
        }
    }

    private static List<Class<?>> all() {
        List<Class<?>> all = new ArrayList<>(Arrays.asList(GrownInitials.class.getDeclaredClasses()));
        all.add(GrownInitials.class);
        return all;
    }

    private static void classes() {
        DUE.is("classes", all().size() <= 12, true);
        for (Class<?> type : all()) {
            int fields = 0;
            for (Field f : type.getDeclaredFields()) {
                boolean isStatic = Modifier.isStatic(f.getModifiers());
                DUE.is(f + " is final if static", !isStatic || Modifier.isFinal(f.getModifiers()), true);
                DUE.is(f + " is private", Modifier.isPrivate(f.getModifiers()) || f.getName().equals("NONE"), true);
                fields += isStatic ? 0 : 1;
            }
            DUE.is(type + " fields", fields <= 20, true);
            DUE.is(type + " static", type == GrownInitials.class || Modifier.isStatic(type.getModifiers()), true);
        }
    }

    private static void words(String source) {
        String code = source.replaceAll("(?s)/\\*.*?\\*/", "").replaceAll("//[^\n]*", "");
        String words = "throw throws try catch finally synchronized assert import package native volatile var Object "
            + "float double hashCode toString equals lambda";
        List<String> wrong = new ArrayList<>(List.of("System\\.(?!arraycopy)", "->", "::", "while \\(true\\)",
            "for \\(;;\\)", "\\w+Exact\\b", "\\bstatic \\{"));
        for (String word : words.split(" ")) {
            wrong.add("\\b" + word + "\\b");
        }
        for (String sign : wrong) {
            DUE.is("the source has " + sign, Pattern.compile(sign).matcher(code).find(), false);
        }
        // of the library functions alone are listed, no constants of it
        Matcher library = Pattern.compile("\\b(Integer|Long|Math|System|Arrays)\\.(\\w+)(\\(?)").matcher(code);
        while (library.find()) {
            DUE.is(library.group() + " is a function", library.group(3).isEmpty(), false);
        }
        DUE.is("signs", source.chars().allMatch(c -> c == '\n' || c >= 32 && c < 127), true);
        // what is made is made in constructors and initialisers alone: 'new' stands behind ' = '
        Matcher made = Pattern.compile("\\n( +)(.*)\\bnew ").matcher(code);
        while (made.find()) {
            DUE.is("new in " + made.group(2), made.group(2).matches("\\w+ = "), true);
        }
    }

    private static void lengths(String source) {
        String[] lines = source.split("\n");
        int begun = -1;
        String name = "";
        for (int i = 0; i < lines.length; i++) {
            DUE.is("line " + (i + 1) + " is short", lines[i].length() <= 120, true);
            if (lines[i].matches(" {4,8}[\\w ]*[\\w\\[\\]]+\\(.*\\{") && !lines[i].contains("class ")) {
                begun = i;
                name = lines[i].trim();
            } else if (lines[i].matches(" {4,8}\\}") && begun >= 0) {
                DUE.is(name + " has " + (i - begun + 1) + " lines", i - begun + 1 <= 60, true);
                begun = -1;
            }
        }
    }

    /** Calls make no objects: all rows are made with the common. */
    private static void room() {
        com.sun.management.ThreadMXBean bean = (com.sun.management.ThreadMXBean) ManagementFactory.getThreadMXBean();
        long id = Thread.currentThread().getId();
        bean.getThreadAllocatedBytes(id);
        busy(new GrownInitials());
        GrownInitials g = new GrownInitials();
        long before = bean.getThreadAllocatedBytes(id);
        busy(g);
        long made = bean.getThreadAllocatedBytes(id) - before;
        DUE.is("bytes made by calls: " + made, made < 4096, true);
    }

    private static void busy(GrownInitials g) {
        for (int go = 0; go < 40; go++) {
            g.feed(0x302C303A, 0x413B392C, 0x393A427E, 0, 0);
            g.bark(11);
            g.feed(0x66772831, 0x3D312900, 0, 0, 0);
            g.law(7);
            g.home(0, 9, 3);
            g.seasons(3);
            g.tried(20, 20);
            g.meet(0, 1, 20);
            g.roots(0, 20);
            g.strays(0, 20);
            g.fence(1);
            g.paths();
            g.crossing();
            g.groups(3, 100);
            g.round(3, 0);
            g.feed(0x00FF01FF, 0, 0, 0, 0);
            g.words(4, 0);
            g.feed(0x00010001, 0x00010100, 0, 0, 0);
            g.marriages(2, 100);
            g.feed(0x00010001, 0x00010100, 0, 0, 0);
            g.marriages(2, 0);
            g.feed(0x00010001, 0x00010100, 0, 0, 0);
            g.orders(9, 3, 1);
            g.keep();
            g.undo();
            g.check(0);
            g.count(4);
        }
    }
}
