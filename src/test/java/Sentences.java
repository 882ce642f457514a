import java.io.IOException;
import java.nio.file.Files;
import java.nio.file.Path;
import java.util.ArrayList;
import java.util.List;

/** The sentences of the document behind its public face, each with the section in which it stands. */
final class Sentences {
    private static final Path DOCUMENT = Path.of("../shared/DOC.md");
    private static final String PARAGRAPHS = "\n\\s*\n|\n(?=- )";
    private static final String SIGNATURE = "^`[a-zA-Z]+ ?[a-zA-Z]*\\([^`]*`: ";
    private static final String BEHIND_A_SENTENCE = "(?<=\\.)\\s";

    private Sentences() {
    }

    static List<String> ofDocument() throws IOException {
        List<String> sentences = new ArrayList<>();
        String section = "";
        for (String paragraph : Files.readString(DOCUMENT).split(PARAGRAPHS)) {
            String text = paragraph.replaceAll("\\s+", " ").trim();
            if (text.startsWith("#")) {
                section = text.replaceAll("^#+ ", "").replaceAll(":.*", "");
            } else if (!section.equals("The public face")) {
                for (String sentence : text.replaceAll(SIGNATURE, "").split(BEHIND_A_SENTENCE)) {
                    sentences.add(section + ": " + sentence);
                }
            }
        }
        return sentences;
    }
}
