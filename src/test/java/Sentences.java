import java.io.IOException;
import java.nio.charset.StandardCharsets;
import java.nio.file.Files;
import java.nio.file.Path;
import java.util.BitSet;
import java.util.LinkedHashMap;
import java.util.Map;

/**
 * Holds the class to the document sentence by sentence: says() names a sentence, and the answers asked for behind it
 * are those that would be wrong if it were broken. Wrong are also a sentence that its section does not have, one that
 * no answer was asked for, and words of the document that no sentence names.
 */
final class Sentences {
    private static final Path DOCUMENT = Path.of("../shared/DOC.md");

    private final Map<String, String> sections = new LinkedHashMap<>();
    private final Map<String, BitSet> named = new LinkedHashMap<>();
    private String section = "", sentence = "";
    private int sentences, answers, answersHere, wrong;

    Sentences() throws IOException {
        if (!Files.isReadable(DOCUMENT)) {
            System.out.println(DOCUMENT + " can not be read: sentences are not looked up");
            return;
        }
        String part = "";
        for (String line : Files.readString(DOCUMENT, StandardCharsets.UTF_8).split("\n")) {
            if (line.startsWith("#")) {
                part = line.replaceFirst("^#+ *", "").replaceFirst(":.*", "");
            } else {
                keep(part, line.trim().replaceAll("\\s+", " "));
            }
        }
    }

    /** Sections are the promises, each line of the terms, and the line on how long an object is used. */
    private void keep(String part, String line) {
        boolean isFence = line.isEmpty() || line.startsWith("```");
        if (isFence || line.startsWith("Ahead of the calls ")) {
            return;
        }
        if (part.equals("Terms")) {
            add("Terms, " + line.replaceFirst("^=+ \\d ", ""), line.replaceFirst("^=+ \\d ", ""));
        } else if (part.startsWith("Promise ")) {
            add(part, line.replaceFirst("^`[^`]*`: ", ""));
        } else if (line.startsWith("An object is used ")) {
            add(part, line);
        }
    }

    private void add(String name, String text) {
        sections.merge(name, text, (a, b) -> a + " " + b);
        named.put(name, new BitSet());
    }

    void promise(int n) {
        section = "Promise " + n;
    }

    /** A line of the terms, by its first words. */
    void terms(String firstWords) {
        section = "Terms, " + firstWords;
        for (String name : sections.keySet()) {
            if (name.startsWith(section)) {
                section = name;
                return;
            }
        }
    }

    void use() {
        section = "What it is";
    }

    void says(String words) {
        closeSentence();
        sentence = words;
        sentences++;
        name(words);
    }

    /** Words that ask nothing of the class. */
    void asksNothing(String words) {
        closeSentence();
        sentence = "";
        name(words);
    }

    private void name(String words) {
        if (sections.isEmpty()) {
            return;
        }
        String text = sections.getOrDefault(section, "");
        BitSet here = named.get(section);
        int at = text.indexOf(words);
        while (at >= 0 && here.get(at) && text.indexOf(words, at + 1) >= 0) {
            at = text.indexOf(words, at + 1);
        }
        if (at < 0) {
            fail("these words are not in the document");
        } else {
            here.set(at, at + words.length());
        }
    }

    private void closeSentence() {
        if (!sentence.isEmpty() && answersHere == 0) {
            fail("no answer was asked for");
        }
        answersHere = 0;
    }

    private void fail(String what) {
        wrong++;
        String at = section.length() > 40 ? section.substring(0, 40) + " .." : section;
        System.out.println(at + " | " + sentence + " | " + what);
    }

    void due(String call, long got, long want) {
        answers++;
        answersHere++;
        if (got != want) {
            fail(call + " answered " + got + ", due is " + want);
        }
    }

    void due(String call, String got, String want) {
        answers++;
        answersHere++;
        if (!got.equals(want)) {
            fail(call + " showed\n  " + got + "\ndue is\n  " + want);
        }
    }

    private void lookForOtherWords() {
        for (Map.Entry<String, String> e : sections.entrySet()) {
            StringBuilder rest = new StringBuilder();
            for (int i = 0; i < e.getValue().length(); i++) {
                rest.append(named.get(e.getKey()).get(i) ? '\t' : e.getValue().charAt(i));
            }
            for (String words : rest.toString().split("\t+")) {
                if (words.matches(".*[A-Za-z0-9].*")) {
                    section = e.getKey();
                    sentence = words.trim();
                    fail("no case names these words");
                }
            }
        }
    }

    void finish() {
        closeSentence();
        lookForOtherWords();
        System.out.println(wrong == 0 ? sentences + " sentences hold in " + answers + " answers"
            : wrong + " things are wrong in " + sentences + " sentences");
        if (wrong != 0) {
            System.exit(1);
        }
    }
}
