import java.io.IOException;
import java.lang.reflect.Method;
import java.lang.reflect.Modifier;
import java.net.URL;
import java.net.URLClassLoader;
import java.nio.file.Files;
import java.nio.file.Path;
import java.util.ArrayList;
import java.util.List;
import java.util.TreeSet;
import java.util.function.BiConsumer;
import java.util.regex.Matcher;
import java.util.regex.Pattern;
import java.util.stream.Collectors;
import java.util.stream.Stream;
import javax.tools.ToolProvider;

/** What README.md says is tried: its lines of Java, its commands, the calls and the files that it names. */
public final class ReadmeTest {
    private static final Check CHECK = new Check();
    /** A line that tells an answer: the call, then the number behind the two strokes. */
    private static final Pattern TOLD = Pattern.compile("^(\\w.*\\));\\s*// (-?\\d+)\\b.*$");

    public static void main(String[] args) throws Exception {
        String page = Files.readString(Path.of("README.md"));
        List<String> java = blocks(page, "java");
        tryJava(java);
        calls(page, String.join("\n", java));
        commands(blocks(page, "sh"));
        files(page);
        CHECK.finish();
    }

    private static List<String> blocks(String page, String kind) {
        List<String> blocks = new ArrayList<>();
        Matcher m = Pattern.compile("(?ms)^```" + kind + "\n(.*?)^```$").matcher(page);
        while (m.find()) {
            blocks.add(m.group(1));
        }
        CHECK.due("there are blocks of " + kind, blocks.isEmpty() ? 0 : 1, 1);
        return blocks;
    }

    /** Blocks of methods stand in a class, all the others behind one another in one method, as a reader would put them. */
    private static void tryJava(List<String> blocks) throws Exception {
        StringBuilder methods = new StringBuilder();
        StringBuilder lines = new StringBuilder();
        int told = 0;
        for (String block : blocks) {
            if (block.contains("static ")) {
                methods.append(block);
                continue;
            }
            for (String line : block.split("\n")) {
                Matcher m = TOLD.matcher(line);
                boolean tells = m.find();
                told += tells ? 1 : 0;
                CHECK.due("a line that tells an answer in another form: " + line, !tells && line.contains("//") ? 1 : 0, 0);
                String call = tells ? m.group(1) : "";
                lines.append(tells ? "due.accept(\"" + call.replace("\"", "'") + "\", new long[] {" + call + ", " + m.group(2) + "});" : line).append('\n');
            }
        }
        CHECK.due("many lines tell an answer", told > 100 ? 1 : 0, 1);
        run("import java.util.function.BiConsumer;\npublic final class Tried {\n" + methods
            + "public static void hold(BiConsumer<String, long[]> due) {\n" + lines + "}\n}\n");
    }

    private static void run(String source) throws Exception {
        Path room = Files.createTempDirectory("readme");
        try {
            Path file = Files.writeString(room.resolve("Tried.java"), source);
            int compiled = ToolProvider.getSystemJavaCompiler().run(null, null, null,
                "-cp", System.getProperty("java.class.path"), "-d", room.toString(), file.toString());
            CHECK.due("javac of the page's Java", compiled, 0);
            if (compiled == 0) {
                try (URLClassLoader loader = new URLClassLoader(new URL[] {room.toUri().toURL()})) {
                    BiConsumer<String, long[]> due = (call, answers) -> CHECK.due(call, answers[0], answers[1]);
                    loader.loadClass("Tried").getMethod("hold", BiConsumer.class).invoke(null, due);
                }
            }
        } finally {
            clear(room);
        }
    }

    private static void clear(Path room) throws IOException {
        try (Stream<Path> files = Files.list(room)) {
            for (Path file : files.collect(Collectors.toList())) {
                Files.delete(file);
            }
        }
        Files.delete(room);
    }

    /** Each call stands in a table with the parameters that it has, and is tried. */
    private static void calls(String page, String java) {
        int seen = 0;
        for (Method m : EdgeChain.class.getDeclaredMethods()) {
            if (!Modifier.isPublic(m.getModifiers())) {
                continue;
            }
            seen++;
            StringBuilder head = new StringBuilder("(?m)^\\| `" + m.getName() + "\\(");
            for (int i = 0; i < m.getParameterCount(); i++) {
                head.append(i == 0 ? "" : ", ").append(m.getParameterTypes()[i]).append(" \\w+");
            }
            CHECK.due(m.getName() + " in a table", Pattern.compile(head + "\\)` \\|").matcher(page).find() ? 1 : 0, 1);
            CHECK.due(m.getName() + " is tried", java.contains("." + m.getName() + "(") ? 1 : 0, 1);
        }
        CHECK.due("calls", seen, 34);
        for (String name : new String[] {"BAD`, -1", "STATE`, -2", "FULL`, -3", "NONE`, -4"}) {
            CHECK.due(name, page.contains("`EdgeChain." + name + " |") ? 1 : 0, 1);
        }
    }

    /** But for .ci/run, which runs this test; what they compile goes elsewhere, for the checkout stays as it is. */
    private static void commands(List<String> blocks) throws Exception {
        int run = 0;
        Path room = Files.createTempDirectory("commands");
        for (String command : String.join("", blocks).split("\n")) {
            if (command.equals("./.ci/run")) {
                CHECK.due(command + " can be run", Files.isExecutable(Path.of(command)) ? 1 : 0, 1);
                continue;
            }
            run++;
            String elsewhere = command.replaceAll("(?<= -d | -cp )out\\b", room.toString());
            Process p = new ProcessBuilder("sh", "-c", elsewhere).redirectErrorStream(true).start();
            String printed = new String(p.getInputStream().readAllBytes());
            CHECK.due(command + " printed " + printed + "and", p.waitFor(), 0);
        }
        clear(room);
        CHECK.due("commands", run, 3);
    }

    /** The tables name every file under src/test/java, and no other. */
    private static void files(String page) throws IOException {
        TreeSet<String> there = new TreeSet<>();
        try (Stream<Path> files = Files.list(Path.of("src/test/java"))) {
            files.forEach(f -> there.add(f.getFileName().toString().replace(".java", "")));
        }
        for (String name : there) {
            CHECK.due(name + " is named", page.contains("`" + name + "`") ? 1 : 0, 1);
        }
        Matcher m = Pattern.compile("(?m)^\\| `(\\w+)` \\|").matcher(page);
        while (m.find()) {
            CHECK.due(m.group(1) + " is there", there.contains(m.group(1)) ? 1 : 0, 1);
        }
    }
}
