import java.io.IOException;
import java.nio.file.Files;
import java.nio.file.Path;
import java.util.LinkedHashSet;
import java.util.Set;
import java.util.regex.Matcher;
import java.util.regex.Pattern;

/**
 * The sentences of ../shared/DOC.md, each under the section in which it stands, so that a test can
 * name the one that it is for, and none is left without a test. Run from the project's folder.
 */
final class Document {
    private static final Path FILE = Path.of("../shared/DOC.md");
    /** A stop that is not one of the two between a range's ends. */
    private static final Pattern SENTENCE = Pattern.compile(".*?[^.]\\.(?=\\s|$)");

    private static final Set<String> SENTENCES = new LinkedHashSet<>();
    private static final Set<String> TESTED = new LinkedHashSet<>();

    private Document() {
    }

    static void open() {
        try {
            for (String section : Files.readString(FILE).split("(?m)^## ")) {
                int end = section.indexOf('\n');
                String name = section.substring(0, end).replaceAll(":.*", "").trim();
                if (name.startsWith("Promise") || name.equals("Terms") || name.equals("What it is")) {
                    takeSentences(name, section.substring(end));
                }
            }
        } catch (IOException missing) {
            System.out.println("without " + FILE + ": the sentences are not looked for in it");
        }
    }

    private static void takeSentences(String section, String text) {
        for (String paragraph : text.trim().split("\n\\s*\n")) {
            String words = paragraph.replaceAll("\\s+", " ").replaceFirst("^`[^`]*`: ", "");
            Matcher matcher = SENTENCE.matcher(words);
            while (matcher.find()) {
                SENTENCES.add(section + " | " + matcher.group().trim());
            }
        }
    }

    /** What follows tests this sentence. */
    static void says(String section, String sentence) {
        String whole = section + " | " + sentence;
        TESTED.add(whole);
        Check.that("the document has no more: " + whole, SENTENCES.isEmpty() || SENTENCES.contains(whole));
    }

    static void says(int promise, String sentence) {
        says("Promise " + promise, sentence);
    }

    static void everySentenceIsTested() {
        for (String sentence : SENTENCES) {
            Check.that("no test is for: " + sentence, TESTED.contains(sentence));
        }
    }
}
