import java.io.IOException;
import java.io.UncheckedIOException;
import java.nio.charset.StandardCharsets;
import java.nio.file.Files;
import java.nio.file.Path;
import java.util.ArrayList;
import java.util.Comparator;
import java.util.List;

/** Tests of single sentences of the document: each must stand there word for word, so that none is forgotten. */
final class Sentence {
    private static final String DOCUMENT = read();
    private static final String HEAD = "\n## ";
    private static final int MOST_UNQUOTED = 5;
    private static final List<String> QUOTED = new ArrayList<>();

    private Sentence() {
    }

    private static String read() {
        try {
            return "\n" + Files.readString(Path.of("../shared/DOC.md"), StandardCharsets.UTF_8) + HEAD;
        } catch (IOException e) {
            throw new UncheckedIOException(e);
        }
    }

    /** The test of a sentence of one promise. */
    static void of(int promise, String words, Runnable test) {
        of("Promise " + promise + ":", words, test);
    }

    /** The test of a sentence of the section whose title begins so. */
    static void of(String section, String words, Runnable test) {
        Check.about("");
        Check.is(section + " says «" + words + "»", true, () -> text(section).contains(words));
        QUOTED.add(section + words);
        Check.about(section + " «" + words + "»: ");
        int before = Check.checks();
        test.run();
        Check.about("");
        Check.is(section + " «" + words + "» is tested", true, () -> Check.checks() > before);
    }

    private static String text(String section) {
        int begin = DOCUMENT.indexOf(HEAD + section);
        return begin < 0 ? "" : DOCUMENT.substring(begin + 1, DOCUMENT.indexOf(HEAD, begin + 1));
    }

    /** Each range, each answer and each exception of these promises has been quoted by a test. */
    static void allOfPromises(int first, int last) {
        for (int promise = first; promise <= last; promise++) {
            String section = "Promise " + promise + ":";
            for (String line : text(section).split("\n")) {
                boolean limits = line.startsWith("- `") && line.matches(".*([0-9']|earlier|later).*");
                if (limits || line.startsWith("Returns ") || line.startsWith("Throws ")) {
                    Check.is(section + " " + line + " has a test", true, () -> isQuoted(section, line));
                }
            }
        }
    }

    /** Each sentence of this section has been quoted: what is left of one names nothing that could be tested. */
    static void allOf(String section) {
        for (String line : text(section).split("\n")) {
            if (line.startsWith("#") || line.startsWith("Ahead of the calls")) {
                continue;
            }
            for (String sentence : line.split("(?<=\\.) ")) {
                int left = wordsUnquoted(section, sentence);
                Check.is(section + " " + sentence + " has a test", true, () -> left <= MOST_UNQUOTED);
            }
        }
    }

    private static int wordsUnquoted(String section, String sentence) {
        List<String> longestFirst = new ArrayList<>(QUOTED);
        // a quotation may be a part of another one
        longestFirst.sort(Comparator.comparingInt(quoted -> -quoted.length()));
        String left = sentence;
        for (String quoted : longestFirst) {
            if (quoted.startsWith(section)) {
                left = left.replace(quoted.substring(section.length()), " ");
            }
        }
        return left.replaceAll("[^a-z']+", " ").trim().split(" ").length;
    }

    private static boolean isQuoted(String section, String sentence) {
        for (String quoted : QUOTED) {
            if (quoted.startsWith(section) && sentence.contains(quoted.substring(section.length()))) {
                return true;
            }
        }
        return false;
    }
}
