import java.lang.reflect.Field;
import java.lang.reflect.Method;
import java.lang.reflect.Modifier;
import java.nio.file.Files;
import java.nio.file.Path;
import java.util.ArrayList;
import java.util.HashMap;
import java.util.List;
import java.util.Map;
import java.util.Set;
import java.util.TreeSet;
import java.util.regex.Matcher;
import java.util.regex.Pattern;

/** Rules of LANGUAGE.md that can be read off the source and the class: words and library, members, methods, calls. */
public final class RulesTest {
    private static final Check CHECK = new Check();
    private static final String[] FORBIDDEN = {"throw", "throws", "try", "catch", "finally", "synchronized", "assert", "->", "::",
        "volatile", "native", "transient", "package", "hashCode", "toString", "Exact", "System\\.(?!arraycopy)", "protected", "var"};
    /** All that the source takes from the library; rule 4 has it. */
    private static final Set<String> LIBRARY = Set.of("Arrays.fill", "Integer.bitCount", "Math.max", "Math.min", "length", "charAt");
    private static final Set<String> NO_CALLS = Set.of("if", "for", "while", "switch", "return");
    private static final Set<Class<?>> STATIC_TYPES = Set.of(int.class, long.class, boolean.class, char.class, String.class,
        int[].class, long[].class, char[].class, byte[].class);
    private static final int MOST_FIELDS = 20, DEEPEST = 8;

    public static void main(String[] args) throws Exception {
        String source = Files.readString(Path.of("src/main/java/EdgeChain.java"));
        String code = source.replaceAll("(?s)/\\*.*?\\*/", "").replaceAll("//[^\n]*", "");
        for (String word : FORBIDDEN) {
            boolean isWord = Character.isLetter(word.charAt(0));
            Matcher m = Pattern.compile(isWord && !word.equals("Exact") ? "\\b" + word + (word.endsWith(")") ? "" : "\\b") : word).matcher(code);
            CHECK.due("uses of " + word, m.find() ? 1 : 0, 0);
        }
        CHECK.due("imports", code.split("\nimport ").length, 1);
        CHECK.due("the import", code.startsWith("import java.util.Arrays;") ? 1 : 0, 1);
        CHECK.due("signs 1 to 127", source.chars().allMatch(c -> c > 0 && c < 128) ? 1 : 0, 1);
        classes(code);
        methods(code);
        members();
        library(code);
        loops(code);
        depth(code);
        CHECK.finish();
    }

    private static void classes(String code) {
        Matcher m = Pattern.compile("(?m)^(.*)\\bclass (\\w+)").matcher(code);
        int n = 0;
        while (m.find()) {
            n++;
            boolean fine = m.group(1).equals("public final ") || m.group(1).equals("    private static final ");
            CHECK.due("class " + m.group(2), fine ? 1 : 0, 1);
        }
        CHECK.due("at most twelve classes: " + n, n <= 12 ? 1 : 0, 1);
    }

    private static void methods(String code) {
        List<String> lines = new ArrayList<>(List.of(code.split("\n")));
        Pattern head = Pattern.compile("^( {4}| {8})(\\w[\\w\\[\\] ]* )?(\\w+)\\(([^)]*)\\) \\{$");
        int seen = 0;
        for (int i = 0; i < lines.size(); i++) {
            Matcher m = head.matcher(lines.get(i));
            if (!m.find()) {
                continue;
            }
            seen++;
            int last = i;
            while (!lines.get(last).equals(m.group(1) + "}")) {
                last++;
            }
            CHECK.due(m.group(3) + " is short", last - i + 1 <= 60 ? 1 : 0, 1);
            CHECK.due(m.group(3) + " takes few", m.group(4).split(",").length <= 7 ? 1 : 0, 1);
            boolean isConstructor = Character.isUpperCase(m.group(3).charAt(0));
            boolean makes = String.join("\n", lines.subList(i, last)).contains("new ");
            CHECK.due(m.group(3) + " makes nothing, for all calls share one room", !isConstructor && makes ? 1 : 0, 0);
        }
        CHECK.due("methods were seen", seen > 100 ? 1 : 0, 1);
    }

    private static void members() {
        Set<String> face = new TreeSet<>();
        for (Method m : EdgeChain.class.getDeclaredMethods()) {
            if (Modifier.isPublic(m.getModifiers())) {
                face.add(m.getName());
            }
        }
        fields(EdgeChain.class);
        for (Class<?> c : EdgeChain.class.getDeclaredClasses()) {
            CHECK.due(c + " is static", Modifier.isStatic(c.getModifiers()) ? 1 : 0, 1);
            CHECK.due(c + " has no classes of its own", c.getDeclaredClasses().length, 0);
            fields(c);
            for (Method m : c.getDeclaredMethods()) {
                CHECK.due("named as a public one: " + m, face.contains(m.getName()) ? 1 : 0, 0);
            }
        }
    }

    private static void fields(Class<?> c) {
        int own = 0;
        for (Field f : c.getDeclaredFields()) {
            if (Modifier.isStatic(f.getModifiers())) {
                CHECK.due("final: " + f, Modifier.isFinal(f.getModifiers()) ? 1 : 0, 1);
                CHECK.due("of a type that may be static: " + f, STATIC_TYPES.contains(f.getType()) ? 1 : 0, 1);
            } else {
                own++;
            }
        }
        CHECK.due("few fields in " + c + ": " + own, own <= MOST_FIELDS ? 1 : 0, 1);
    }

    private static void library(String code) {
        Set<String> own = new TreeSet<>();
        for (Class<?> c : EdgeChain.class.getDeclaredClasses()) {
            for (Method m : c.getDeclaredMethods()) {
                own.add(m.getName());
            }
        }
        Matcher m = Pattern.compile("([\\w\\])]+)\\.(\\w+)\\(").matcher(code);
        while (m.find()) {
            String qualified = m.group(1) + "." + m.group(2);
            boolean known = own.contains(m.group(2)) || LIBRARY.contains(m.group(2)) || LIBRARY.contains(qualified);
            CHECK.due("from the library: " + qualified, known ? 1 : 0, 1);
        }
    }

    /** Each loop has its bound in its head. */
    private static void loops(String code) {
        Matcher m = Pattern.compile("\\b(for|while|do) ?(\\(.*|\\{)").matcher(code);
        while (m.find()) {
            boolean bound = m.group(2).matches(".* (<|>=|:) .*");
            CHECK.due("a bound in " + m.group(), bound ? 1 : 0, 1);
        }
    }

    /** By names alone: methods of one name count as one, so a way that is too deep or in a ring may only be seen too often. */
    private static void depth(String code) {
        Map<String, Set<String>> calls = new HashMap<>();
        Pattern head = Pattern.compile("^( {4}| {8})(?:\\w[\\w\\[\\] ]* )?(\\w+)\\([^)]*\\) \\{$");
        Pattern call = Pattern.compile("(\\w+)\\(");
        String inside = "";
        for (String line : code.split("\n")) {
            Matcher m = head.matcher(line);
            if (m.find()) {
                inside = m.group(2);
                calls.putIfAbsent(inside, new TreeSet<>());
                continue;
            }
            for (m = call.matcher(line); m.find() && !inside.isEmpty();) {
                if (!NO_CALLS.contains(m.group(1))) {
                    calls.get(inside).add(m.group(1));
                }
            }
        }
        for (String name : calls.keySet()) {
            int deep = deep(calls, name, 1);
            CHECK.due(name + " calls at most eight deep: " + deep, deep <= DEEPEST ? 1 : 0, 1);
        }
    }

    private static int deep(Map<String, Set<String>> calls, String name, int level) {
        int deepest = level;
        if (level <= DEEPEST) {
            for (String next : calls.getOrDefault(name, Set.of())) {
                deepest = Math.max(deepest, deep(calls, next, level + 1));
            }
        }
        return deepest;
    }
}
