import java.nio.file.Files;
import java.nio.file.Path;
import java.util.ArrayList;
import java.util.List;
import java.util.regex.Matcher;
import java.util.regex.Pattern;

/** Rules of LANGUAGE.md that can be read off the source: words it may not use, how long methods and lists are. */
public final class RulesTest {
    private static final Check CHECK = new Check();
    private static final String[] FORBIDDEN = {"throw", "throws", "try", "catch", "finally", "synchronized", "assert", "->", "::",
        "volatile", "native", "transient", "package", "hashCode", "toString", "Exact", "System\\.(?!arraycopy)", "protected", "var"};

    public static void main(String[] args) throws Exception {
        String source = Files.readString(Path.of("src/main/java/EdgeChain.java"));
        String code = source.replaceAll("(?s)/\\*.*?\\*/", "").replaceAll("//[^\n]*", "");
        for (String word : FORBIDDEN) {
            boolean isWord = Character.isLetter(word.charAt(0));
            Matcher m = Pattern.compile(isWord && !word.equals("Exact") ? "\\b" + word + (word.endsWith(")") ? "" : "\\b") : word).matcher(code);
            CHECK.due("uses of " + word, m.find() ? 1 : 0, 0);
        }
        CHECK.due("imports", code.split("\nimport ").length, 1);
        CHECK.due("the import", code.startsWith("import java.util.Arrays;") ? 1 : 0, 1);
        CHECK.due("signs 1 to 127", source.chars().allMatch(c -> c > 0 && c < 128) ? 1 : 0, 1);
        classes(code);
        methods(code);
        CHECK.finish();
    }

    private static void classes(String code) {
        Matcher m = Pattern.compile("(?m)^(.*)\\bclass (\\w+)").matcher(code);
        int n = 0;
        while (m.find()) {
            n++;
            boolean fine = m.group(1).equals("public final ") || m.group(1).equals("    private static final ");
            CHECK.due("class " + m.group(2), fine ? 1 : 0, 1);
        }
        CHECK.due("at most twelve classes: " + n, n <= 12 ? 1 : 0, 1);
    }

    private static void methods(String code) {
        List<String> lines = new ArrayList<>(List.of(code.split("\n")));
        Pattern head = Pattern.compile("^( {4}| {8})(\\w[\\w\\[\\] ]* )?(\\w+)\\(([^)]*)\\) \\{$");
        int seen = 0;
        for (int i = 0; i < lines.size(); i++) {
            Matcher m = head.matcher(lines.get(i));
            if (!m.find()) {
                continue;
            }
            seen++;
            int last = i;
            while (!lines.get(last).equals(m.group(1) + "}")) {
                last++;
            }
            CHECK.due(m.group(3) + " is short", last - i + 1 <= 60 ? 1 : 0, 1);
            CHECK.due(m.group(3) + " takes few", m.group(4).split(",").length <= 7 ? 1 : 0, 1);
            boolean isConstructor = Character.isUpperCase(m.group(3).charAt(0));
            boolean makes = String.join("\n", lines.subList(i, last)).contains("new ");
            CHECK.due(m.group(3) + " makes nothing, for all calls share one room", !isConstructor && makes ? 1 : 0, 0);
        }
        CHECK.due("methods were seen", seen > 100 ? 1 : 0, 1);
    }
}
