import java.io.IOException;
import java.nio.file.Files;
import java.nio.file.Path;
import java.util.Arrays;
import java.util.BitSet;
import java.util.List;
import java.util.regex.MatchResult;
import java.util.regex.Matcher;
import java.util.regex.Pattern;
import java.util.stream.Collectors;
import java.util.stream.Stream;

/**
 * That no words of the Terms and of the promises are left without a test: each stands in a sentence that some test names by
 * Rings.sentence(..). Run from the project's folder, with the document beside it.
 */
public final class DocumentTest {
    private static final Path DOCUMENT = Path.of("../shared/DOC.md");
    private static final Path TESTS = Path.of("src/test/java");
    private static final Pattern QUOTED = Pattern.compile("\"((?:[^\"\\\\]|\\\\.)*)\"");
    private static final Pattern NAMED = Pattern.compile("Rings\\.sentence\\(((?:\\s*\\+?\\s*" + QUOTED.pattern() + ")+)\\)");
    /** What is no sentence: headings, the calls as Java tells them, where a text begins and ends. */
    private static final String[] ASIDE = {"## Terms", "## Promise \\d+: [\\w ]+ `[^`]*`:", "```(text)?", "==== 2\\.",
        "The constants: `[^`]*`: There is none\\."};

    private DocumentTest() {
    }

    public static void main(String[] args) throws IOException {
        if (Files.isReadable(DOCUMENT)) {
            String document = Files.readString(DOCUMENT).replaceAll("\\s+", " ");
            String told = document.substring(document.indexOf("## Terms"), document.indexOf("## Not promised"));
            BitSet tried = new BitSet(told.length());
            for (String aside : ASIDE) {
                for (MatchResult found : Pattern.compile(aside).matcher(told).results().toList()) {
                    tried.set(found.start(), found.end());
                }
            }
            for (String sentence : sentences()) {
                mark(tried, told, sentence);
            }
            tellTheRest(tried, told);
        }
        Rings.finish("DocumentTest");
    }

    private static List<String> sentences() throws IOException {
        try (Stream<Path> files = Files.list(TESTS)) {
            StringBuilder all = new StringBuilder();
            for (Path file : files.filter(path -> path.toString().endsWith("Test.java")).sorted().toList()) {
                all.append(Files.readString(file));
            }
            return NAMED.matcher(all).results().map(call -> words(call.group(1))).collect(Collectors.toList());
        }
    }

    /** The words of a text that is told in Java, maybe in some pieces. */
    private static String words(String java) {
        StringBuilder words = new StringBuilder();
        Matcher pieces = QUOTED.matcher(java);
        while (pieces.find()) {
            words.append(pieces.group(1));
        }
        return Pattern.compile("\\\\u(\\w{4})").matcher(words)
            .replaceAll(sign -> String.valueOf((char) Integer.parseInt(sign.group(1), 16)));
    }

    private static void mark(BitSet tried, String told, String sentence) {
        for (int at = told.indexOf(sentence); at >= 0; at = told.indexOf(sentence, at + 1)) {
            tried.set(at, at + sentence.length());
        }
    }

    /** Between sentences stand signs and blanks alone. */
    private static void tellTheRest(BitSet tried, String told) {
        int pieces = 0;
        for (int from = tried.nextClearBit(0); from < told.length(); from = tried.nextClearBit(from)) {
            int next = tried.nextSetBit(from);
            int past = next < 0 ? told.length() : next;
            String rest = told.substring(from, past);
            long words = Arrays.stream(rest.split("[^A-Za-z0-9]+")).filter(word -> !word.isEmpty()).count();
            Rings.due("words without a test in \"" + rest + "\"", true, words == 0);
            pieces++;
            from = past;
        }
        Rings.due("some lie between sentences", true, pieces > 0);
    }
}
