import java.io.IOException;
import java.nio.file.Files;
import java.nio.file.Path;
import java.util.ArrayList;
import java.util.List;
import java.util.Set;
import java.util.TreeSet;
import java.util.regex.Matcher;
import java.util.regex.Pattern;

/**
 * Compares the sentences that the tests quote with those of the document: each quotation must stand there word by word,
 * and each sentence must be quoted by a test of its own, but for those that no answer can show.
 */
public final class SentencesTest {
    private static final Path DOCUMENT = Path.of("../shared/DOC.md");
    private static final Path TESTS = Path.of("src/test/java");
    private static final Pattern QUOTATION = Pattern.compile("/\\*\\*[\\s*]+(What it is|Terms|Promise \\d+): "
            + "((?:(?!\\*/).)*?)\\s*\\*/\\s+private static void test", Pattern.DOTALL);
    /** FaceTest and TermsEdgeTest have tests of the face, which is no sentence. */
    private static final Set<String> OTHER_SECTIONS = Set.of("TeaHouse", "The public face", "Not promised");
    /** A summary, headings, what is not promised, and the minute counter, which no call shows. */
    private static final Set<String> WITHOUT_A_TEST = Set.of(
            "What it is: A tea house with kettles on burners, orders by priority, steam that is collected and sold, "
                    + "and a ledger of nights.",
            "Terms: Kettles.", "Terms: Orders.", "Terms: Cups.", "Terms: Minutes.", "Terms: Sales.", "Terms: Commands.",
            "Terms: Undo.", "Terms: Errors.",
            "Terms: The class is not thread-safe.",
            "Terms: The minute counter starts at 0.");

    public static void main(String[] args) throws IOException {
        Set<String> sentences = sentences();
        Set<String> quoted = quotations();
        for (String quotation : quoted) {
            Expect.yes("the document says '" + quotation + "'", sentences.contains(quotation));
        }
        for (String sentence : sentences) {
            if (!WITHOUT_A_TEST.contains(sentence)) {
                Expect.yes("a test quotes '" + sentence + "'", quoted.contains(sentence));
            }
        }
        Expect.yes("the document has sentences", sentences.size() > 200);
        Expect.end();
    }

    private static Set<String> sentences() throws IOException {
        Set<String> sentences = new TreeSet<>();
        String section = "";
        for (String paragraph : Files.readString(DOCUMENT).split("\n\\s*\n")) {
            if (paragraph.startsWith("#")) {
                section = paragraph.replaceAll("^#+ ", "").replaceAll("^(Promise \\d+): .*", "$1");
            } else if (!OTHER_SECTIONS.contains(section)) {
                for (String part : paragraph.split("\n(?=- )")) {
                    addSentences(sentences, section, part);
                }
            }
        }
        return sentences;
    }

    private static void addSentences(Set<String> sentences, String section, String part) {
        String text = part.replaceAll("\\s+", " ").trim().replaceAll("^- ", "").replaceAll("^`[^`]*\\)[^`]*`: ", "");
        for (String sentence : split(text)) {
            sentences.add(section + ": " + sentence);
        }
    }

    private static String[] split(String text) {
        return text.split("(?<=[.:]) (?=[A-Z])");
    }

    private static Set<String> quotations() throws IOException {
        Set<String> quoted = new TreeSet<>();
        for (Path file : tests()) {
            Matcher matcher = QUOTATION.matcher(Files.readString(file));
            while (matcher.find()) {
                String text = matcher.group(2).replaceAll("\n\\s*\\* ", " ").replaceAll("\\s+", " ").trim();
                for (String sentence : split(text)) {
                    String quotation = matcher.group(1) + ": " + sentence;
                    Expect.yes("'" + quotation + "' is quoted once", quoted.add(quotation));
                }
            }
        }
        return quoted;
    }

    private static List<Path> tests() throws IOException {
        List<Path> files = new ArrayList<>();
        try (var found = Files.newDirectoryStream(TESTS, "*Test.java")) {
            found.forEach(files::add);
        }
        return files;
    }
}
