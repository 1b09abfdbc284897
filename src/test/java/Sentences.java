import java.io.IOException;
import java.nio.file.Files;
import java.nio.file.Path;
import java.util.ArrayList;
import java.util.Comparator;
import java.util.List;

/**
 * Which words of the document the tests of boundary cases name. Every word of 'Terms' and of each promise has to be
 * named by a test that looks at an answer, so that no sentence is forgotten and none is tested that is not there.
 */
final class Sentences {
    private static final String TERMS = "Terms";
    private static final String USE = "What it is";
    private static final int PROMISES = 40;

    private record Sentence(String section, String words) {
    }

    private static final List<Sentence> NAMED = new ArrayList<>();
    private static Sentence now = null;
    private static int lookedBefore = 0;

    private Sentences() {
    }

    /** What is looked at from here on is asked by these words of a promise. */
    static void promise(int number, String words) {
        begin("Promise " + number, words);
    }

    static void terms(String words) {
        begin(TERMS, words);
    }

    static void use(String words) {
        begin(USE, words);
    }

    private static void begin(String section, String words) {
        end();
        now = new Sentence(section, words);
        lookedBefore = Check.looked();
        Check.words(section + ", \"" + words + "\": ");
    }

    /** The words that were under test are so no more; something must have been looked at for them. */
    static void end() {
        Check.words("");
        if (now != null) {
            Check.due("answers looked at for \"" + now.words + "\"", Check.looked() > lookedBefore ? 1 : 0, 1);
            NAMED.add(now);
            now = null;
        }
    }

    static void all(Path document) throws IOException {
        end();
        String text = Files.readString(document).replaceAll("\\s+", " ");
        allNamed(TERMS, between(text, "## Terms", "Ahead of the calls `feed`"));
        for (int n = 1; n <= PROMISES; n++) {
            String promise = between(text, "## Promise " + n + ":", n < PROMISES ? "## Promise " + (n + 1) : "## Not promised");
            allNamed("Promise " + n, promise.substring(promise.indexOf("`:") + 2));
        }
        String use = between(text, "## What it is", "## The public face");
        for (Sentence s : NAMED) {
            if (s.section.equals(USE)) {
                Check.due("the document says \"" + s.words + "\"", use.contains(s.words) ? 1 : 0, 1);
            }
        }
    }

    private static String between(String text, String from, String to) {
        int begin = text.indexOf(from) + from.length();
        return text.substring(begin, text.indexOf(to, begin));
    }

    private static void allNamed(String section, String told) {
        List<String> words = new ArrayList<>();
        for (Sentence s : NAMED) {
            if (s.section.equals(section)) {
                words.add(s.words);
            }
        }
        // The longest first: a short one may stand within a long one.
        words.sort(Comparator.comparingInt(String::length).reversed());
        String left = told;
        for (String w : words) {
            int at = left.indexOf(w);
            Check.due(section + " says \"" + w + "\"", at >= 0 ? 1 : 0, 1);
            if (at >= 0) {
                left = left.substring(0, at) + " / " + left.substring(at + w.length());
            }
        }
        // The heads of the two parts of the terms and what frames their texts are no sentences.
        left = left.replaceAll("======== [12]|```(text)?|[/ ]", "");
        Check.due(section + " has words that no test names: " + left, left.length(), 0);
    }
}
