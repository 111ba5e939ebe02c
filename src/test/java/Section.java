import java.io.IOException;
import java.io.UncheckedIOException;
import java.nio.file.Files;
import java.nio.file.Path;
import java.util.LinkedHashMap;
import java.util.Map;

/** A section of the document: runs a test for each of its sentences, and tells which sentences have none. */
final class Section {
    private static final Map<String, Section> ALL = readAll();

    private final String title;
    private final String text;
    private final boolean[] quoted;

    private Section(String title, String text) {
        this.title = title;
        this.text = text;
        quoted = new boolean[text.length()];
    }

    static Section of(String title) {
        Section found = ALL.get(title);
        if (found == null) {
            throw new IllegalArgumentException("the document has no section " + title);
        }
        return found;
    }

    private static Map<String, Section> readAll() {
        Map<String, Section> all = new LinkedHashMap<>();
        try {
            String document = Files.readString(Path.of("../shared/DOC.md"));
            for (String part : document.split("(?m)^## ")) {
                String title = part.lines().findFirst().orElse("").trim();
                String text = part.substring(part.indexOf('\n') + 1).trim();
                // The signature that a promise begins with is for FaceTest, and a title such as "Fees." says nothing.
                String said = text.replaceFirst("^`[^`]*`", "").replaceAll("\n\n[A-Z][a-z]+( and [a-z]+)?\\. ", "\n");
                all.put(title, new Section(title, said.replaceAll("\\s+", " ").trim()));
            }
        } catch (IOException e) {
            throw new UncheckedIOException(e);
        }
        return all;
    }

    /** Runs the test of a sentence, or of a part of one, that stands in this section. */
    void holds(String sentence, Runnable test) {
        Checks.about(title + ": \"" + sentence + "\"");
        quote(sentence);
        try {
            test.run();
        } catch (RuntimeException e) {
            Checks.wrong("threw " + e);
        }
        Checks.about("");
    }

    /** For a sentence that says nothing which a call could answer. */
    void tells(String sentence) {
        Checks.about(title + ": \"" + sentence + "\"");
        quote(sentence);
        Checks.about("");
    }

    /** A sentence that stands there twice is quoted twice. */
    private void quote(String sentence) {
        int at = text.indexOf(sentence);
        while (at >= 0 && quoted[at]) {
            at = text.indexOf(sentence, at + 1);
        }
        if (at < 0) {
            Checks.wrong("does not stand in the document, or is quoted already");
            return;
        }
        for (int i = at; i < at + sentence.length(); i++) {
            quoted[i] = true;
        }
    }

    static void everySentenceIsQuoted() {
        for (Section section : ALL.values()) {
            if (section.title.startsWith("Promise ") || section.title.equals("Description")) {
                section.isQuoted();
            }
        }
    }

    private void isQuoted() {
        Checks.about(title + " has sentences without a test");
        StringBuilder rest = new StringBuilder();
        for (int i = 0; i < text.length(); i++) {
            rest.append(quoted[i] ? '|' : text.charAt(i));
        }
        for (String part : rest.toString().split("\\|+")) {
            if (part.matches(".*[A-Za-z0-9].*")) {
                Checks.wrong("\"" + part.trim() + "\"");
            }
        }
        Checks.about("");
    }
}
