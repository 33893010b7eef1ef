import java.nio.file.Files;
import java.nio.file.Path;
import java.util.ArrayList;
import java.util.List;
import java.util.regex.Matcher;
import java.util.regex.Pattern;
import java.util.stream.Stream;

/** Each sentence of the document's terms and promises is named by a test of edges, and each that is named stands there. */
public final class SentencesTest {
    private static final Path DOCUMENT = Path.of("../shared/DOC.md");
    private static final Path TESTS = Path.of("src/test/java");
    private static final Pattern SAYS = Pattern.compile("Edges\\.says\\(((?:[^\"]|\"[^\"]*\")*?)\\);");
    private static final Pattern QUOTED = Pattern.compile("\"([^\"]*)\"");

    public static void main(String[] args) throws Exception {
        String words = wordsOfDocument();
        boolean[] isNamed = new boolean[words.length()];
        for (String sentence : namedSentences()) {
            int at = words.indexOf(sentence);
            Check.holds("not in the document: " + sentence, at >= 0);
            Check.holds("more than once in the document: " + sentence, at < 0 || words.indexOf(sentence, at + 1) < 0);
            for (int i = Math.max(0, at); at >= 0 && i < at + sentence.length(); i++) {
                isNamed[i] = true;
            }
        }
        StringBuilder left = new StringBuilder();
        for (int i = 0; i < words.length(); i++) {
            if (!isNamed[i]) {
                left.append(words.charAt(i));
            }
        }
        Check.holds("no test names: " + left, left.toString().isBlank());
        allAreRun();
        Check.finish();
    }

    /** What "Terms" and the promises say, without headings, the calls' faces and the numbers of parts. */
    private static String wordsOfDocument() throws Exception {
        StringBuilder words = new StringBuilder();
        boolean isInside = false;
        for (String line : Files.readAllLines(DOCUMENT)) {
            if (line.startsWith("## ")) {
                isInside = line.equals("## Terms") || line.startsWith("## Promise ");
            } else if (isInside && !line.startsWith("```") && !line.startsWith("Ahead of the calls")) {
                words.append(line.replaceFirst("^`[^`]*`: ", "").replaceFirst("^[0-9]\\. ", "")).append(' ');
            }
        }
        return words.toString().replaceAll("\\s+", " ");
    }

    private static List<String> namedSentences() throws Exception {
        List<String> all = new ArrayList<>();
        for (String source : sources()) {
            Matcher says = SAYS.matcher(source);
            while (says.find()) {
                StringBuilder sentence = new StringBuilder();
                Matcher part = QUOTED.matcher(says.group(1));
                while (part.find()) {
                    sentence.append(part.group(1));
                }
                all.add(sentence.toString());
            }
        }
        Check.holds("sentences are named", all.size() > 100);
        return all;
    }

    private static List<String> sources() throws Exception {
        List<String> all = new ArrayList<>();
        try (Stream<Path> files = Files.list(TESTS)) {
            for (Path file : files.filter(f -> f.toString().endsWith("Test.java")).sorted().toList()) {
                all.add(Files.readString(file));
            }
        }
        return all;
    }

    /** A test method that main doesn't call would name its sentence in vain. */
    private static void allAreRun() throws Exception {
        for (String source : sources()) {
            Matcher method = Pattern.compile("\n    private static void (\\w+)\\(\\)").matcher(source);
            while (method.find()) {
                boolean isCalled = source.contains("        " + method.group(1) + "();\n");
                Check.holds(method.group(1) + " is not run", isCalled);
            }
        }
    }
}
