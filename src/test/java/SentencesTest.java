import java.io.IOException;
import java.lang.reflect.Method;
import java.nio.file.Files;
import java.nio.file.Path;
import java.util.ArrayList;
import java.util.List;
import java.util.TreeSet;

/**
 * Each sentence of the document either has a test of its boundary cases, or stands in the list of those that name none.
 * So a sentence that is changed or added, or a test that is taken away, is told.
 */
public final class SentencesTest {
    private static final Path DOCUMENT = Path.of("../shared/DOC.md");
    private static final Path WITHOUT_BOUNDARY = Path.of("src/test/sentences-without-boundary.txt");

    public static void main(String[] args) throws IOException {
        TreeSet<String> tested = tested();
        TreeSet<String> without = new TreeSet<>(read(WITHOUT_BOUNDARY));
        TreeSet<String> document = new TreeSet<>(read(DOCUMENT));
        for (String sentence : document) {
            int found = (tested.contains(sentence) ? 1 : 0) + (without.contains(sentence) ? 1 : 0);
            Due.is("tests and list in which stands: " + sentence, found, 1);
        }
        for (String sentence : tested) {
            Due.is("tested, and in the document: " + sentence, document.contains(sentence), true);
        }
        for (String sentence : without) {
            Due.is("without a boundary, and in the document: " + sentence, document.contains(sentence), true);
        }
        System.out.println(document.size() + " sentences, " + tested.size() + " of them with a test of their boundaries");
        Due.end();
    }

    private static TreeSet<String> tested() {
        TreeSet<String> sentences = new TreeSet<>();
        for (Class<?> test : Boundaries.TESTS) {
            for (Method method : Boundaries.list(test)) {
                Sentence sentence = method.getAnnotation(Sentence.class);
                for (String words : sentence.value()) {
                    String whole = sentence.under() + ": " + words;
                    Due.is("one test alone: " + whole, sentences.add(whole), true);
                }
            }
        }
        return sentences;
    }

    /** The sentences, each behind the head under which it stands. */
    private static List<String> read(Path file) throws IOException {
        List<String> sentences = new ArrayList<>();
        String head = "";
        boolean isFace = false;
        for (String line : Files.readAllLines(file)) {
            if (line.startsWith("```java") || line.equals("```") && isFace) {
                isFace = !isFace;
            } else if (line.startsWith("#")) {
                head = line.replaceFirst("^#+ ", "").replaceFirst("^(Promise [0-9]+): .*", "$1");
            } else if (!isFace) {
                addSentences(head, line, sentences);
            }
        }
        return sentences;
    }

    private static void addSentences(String head, String line, List<String> sentences) {
        String text = line.replaceAll("</?(ol|li|pre)>|^```.*$", "").trim().replaceFirst("^`[^`]*\\)[^`]*`: ", "");
        for (String sentence : text.split("(?<=[.])\\s+(?=[A-Z])")) {
            if (!sentence.isEmpty()) {
                sentences.add(head + ": " + sentence);
            }
        }
    }
}
