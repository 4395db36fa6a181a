import java.io.IOException;
import java.nio.file.Files;
import java.nio.file.Path;
import java.util.ArrayList;
import java.util.LinkedHashMap;
import java.util.List;
import java.util.Map;

/** The document's sentences, each with the runs that show that it holds; and which sentences have none. */
final class Book {
    private static final Path DOCUMENT = Path.of("../shared/DOC.md");

    private final Map<String, String> texts = new LinkedHashMap<>();
    private final Map<String, boolean[]> shown = new LinkedHashMap<>();
    private final boolean isThere;
    private String section = "";
    private int sentences = 0;
    private int runs = 0;
    private int wrong = 0;

    Book() throws IOException {
        isThere = Files.isReadable(DOCUMENT);
        if (isThere) {
            read(Files.readAllLines(DOCUMENT));
            texts.forEach((name, text) -> shown.put(name, new boolean[text.length()]));
        }
    }

    /** Sections: "What it is"; "Terms 0" (ahead of the terms' numbers) to "Terms 7"; "Promise 1" to "Promise 38". */
    private void read(List<String> lines) {
        String name = null;
        for (String line : lines) {
            if (line.startsWith("## ")) {
                name = line.equals("## Terms") ? "Terms 0" : line.equals("## What it is") ? "What it is"
                        : line.startsWith("## Promise") ? line.substring(3, line.indexOf(':')) : null;
            } else if (name != null && !line.startsWith("```") && !line.startsWith("Ahead of the calls")) {
                String text = line;
                if (name.startsWith("Terms") && line.matches("\\d+\\. .*")) {
                    name = "Terms " + line.substring(0, line.indexOf('.'));
                    text = line.substring(line.indexOf('.') + 1);
                }
                text = text.replaceFirst("^`[^`]*`: ", "").trim();
                texts.merge(name, text, (a, b) -> (a + " " + b).trim());
            }
        }
    }

    void section(String name) {
        section = name;
        if (isThere && !texts.containsKey(name)) {
            wrong("there is no such section");
        }
    }

    /** A sentence, or a part of one, in the document's own words, and runs that would fail if it were broken. */
    void said(String words, String... told) {
        sentences++;
        mark(words);
        for (int i = 0; i < told.length; i++) {
            int number = i + 1;
            runs++;
            new Run(told[i]).hold(fault -> wrong("\"" + words + "\", run " + number + ": " + fault));
        }
    }

    private void mark(String words) {
        if (!isThere) {
            return;
        }
        int at = texts.getOrDefault(section, "").indexOf(words);
        if (at < 0) {
            wrong("the document does not say \"" + words + "\"");
            return;
        }
        for (int i = at; i < at + words.length(); i++) {
            shown.get(section)[i] = true;
        }
    }

    private void wrong(String fault) {
        wrong++;
        System.out.println(section + ": " + fault);
    }

    private void findUnshown() {
        for (String name : texts.keySet()) {
            section = name;
            if (name.equals("What it is")) {
                continue;
            }
            String text = texts.get(name);
            StringBuilder left = new StringBuilder();
            for (int i = 0; i < text.length(); i++) {
                left.append(shown.get(name)[i] ? ' ' : text.charAt(i));
            }
            for (String part : left.toString().split(" {2,}")) {
                if (part.chars().anyMatch(Character::isLetterOrDigit)) {
                    wrong("no test of its own has \"" + part.trim() + "\"");
                }
            }
        }
    }

    void end() {
        findUnshown();
        System.out.println(sentences + " sentences, " + runs + " runs, " + wrong + " wrong"
                + (isThere ? "" : " (without the document to look at)"));
        if (wrong != 0) {
            System.exit(1);
        }
    }
}
