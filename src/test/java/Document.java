import java.io.IOException;
import java.nio.file.Files;
import java.nio.file.Path;
import java.util.ArrayList;
import java.util.HashMap;
import java.util.LinkedHashMap;
import java.util.List;
import java.util.Map;

/** The document's sections, and which of their words the tests have quoted. */
final class Document {
    private static final Map<String, String> sections = read(Path.of("../shared/DOC.md"));
    private static final Map<String, boolean[]> quoted = new HashMap<>();

    private Document() {
    }

    /** Marks words of a section as quoted; false if they do not stand in it. */
    static boolean quote(String section, String words) {
        String text = sections.getOrDefault(section, "");
        int from = text.indexOf(words);
        if (from < 0) {
            return false;
        }
        boolean[] marks = quoted.computeIfAbsent(section, name -> new boolean[text.length()]);
        // Words that stand there twice are quoted twice.
        while (marks[from] && text.indexOf(words, from + 1) >= 0) {
            from = text.indexOf(words, from + 1);
        }
        for (int i = 0; i < words.length(); i++) {
            marks[from + i] = true;
        }
        return true;
    }

    /** What stands in the first section, the terms and the promises, and no test has quoted. */
    static List<String> unquoted() {
        List<String> left = new ArrayList<>();
        for (String section : sections.keySet()) {
            if (section.startsWith("Promise") || List.of("What it is", "Terms", "Stores", "Gates", "Words", "A step", "Texts").contains(section)) {
                String text = sections.get(section);
                boolean[] marks = quoted.getOrDefault(section, new boolean[text.length()]);
                StringBuilder rest = new StringBuilder();
                for (int i = 0; i < text.length(); i++) {
                    rest.append(marks[i] ? '\n' : text.charAt(i));
                }
                rest.toString().lines().filter(part -> part.matches(".*[A-Za-z0-9].*")).forEach(part -> left.add(section + ": " + part));
            }
        }
        return left;
    }

    private static Map<String, String> read(Path file) {
        Map<String, String> texts = new LinkedHashMap<>();
        String section = "";
        try {
            for (String line : Files.readAllLines(file)) {
                if (line.startsWith("#")) {
                    section = line.replaceFirst("^#+ ", "").replaceFirst(":.*", "");
                } else {
                    // A promise begins with the call that it is about: no words to hold up.
                    texts.merge(section, line.replaceFirst("^`(int )?\\w+\\(.*?\\)`:", ""), (a, b) -> a + "\n" + b);
                }
            }
        } catch (IOException e) {
            throw new IllegalStateException("the document is not there", e);
        }
        return texts;
    }
}
