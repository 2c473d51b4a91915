import java.io.IOException;
import java.io.UncheckedIOException;
import java.nio.file.Files;
import java.nio.file.Path;
import java.util.ArrayList;
import java.util.List;
import java.util.regex.Matcher;
import java.util.regex.Pattern;

/** The document's words: a test of a bound quotes its sentence here, so that what no test quotes can be found. */
final class Doc {
    private static final Pattern NAMES_A_BOUND = Pattern.compile(
            "\\d+|\\bat most\\b|\\bat least\\b|\\bnone\\b|\\bNONE\\b|\\brounded down\\b|\\w+Exception\\b|\\bgoes round\\b|\\bof several\\b"
            + "|\\bnothing\\b|\\blatest\\b|\\bat first\\b|\\bfewest\\b|\\bempty\\b|\\bbelow\\b|\\babove\\b|\\bbeyond\\b|\\bwithout\\b|\\bWithout\\b|\\balone\\b");

    private final String text;
    private final boolean[] quoted;

    Doc() {
        try {
            text = Files.readString(Path.of("..", "shared", "DOC.md"));
        } catch (IOException e) {
            throw new UncheckedIOException(e);
        }
        quoted = new boolean[text.length()];
    }

    /** Words of "Terms", or ahead of the promises; they must stand there just once, and word for word. */
    void terms(String words) {
        quote(words, 0, text.indexOf("## Promise 1:"));
    }

    /** Words of one promise, behind its signature. */
    void promise(int number, String words) {
        int begin = text.indexOf("## Promise " + number + ":");
        int from = text.indexOf("`: ", begin);
        int to = text.indexOf("\n## ", from);
        if (begin < 0 || from < 0 || to < 0) {
            throw new IllegalArgumentException("no promise " + number);
        }
        quote(words, from, to);
    }

    private void quote(String words, int from, int to) {
        int at = text.indexOf(words, from);
        if (at < 0 || at + words.length() > to) {
            throw new IllegalArgumentException("the document does not say: " + words);
        }
        int again = text.indexOf(words, at + 1);
        if (again >= 0 && again + words.length() <= to) {
            throw new IllegalArgumentException("the document says it twice: " + words);
        }
        for (int i = at; i < at + words.length(); i++) {
            quoted[i] = true;
        }
    }

    /** What names a bound in "Terms" or behind a promise's signature, and stands in no quote. */
    List<String> unquoted() {
        List<String> found = new ArrayList<>();
        int end = text.indexOf("## Not promised");
        int from = 0;
        for (String line : text.split("\n")) {
            boolean told = from > text.indexOf("## Terms") && from < end && !line.startsWith("#");
            if (told || line.startsWith("An object is used")) {
                unquotedOf(line, from, found);
            }
            from += line.length() + 1;
        }
        return found;
    }

    private void unquotedOf(String line, int from, List<String> found) {
        Matcher names = NAMES_A_BOUND.matcher(line);
        int behind = line.startsWith("==== ") ? 7 : Math.max(0, line.indexOf("`: "));
        names.region(behind, line.length());
        while (names.find()) {
            if (!quoted[from + names.start()] || !quoted[from + names.end() - 1]) {
                int begin = Math.max(0, names.start() - 60);
                found.add(line.substring(begin, names.start()) + ">>" + names.group() + "<<"
                        + line.substring(names.end(), Math.min(line.length(), names.end() + 40)));
            }
        }
    }
}
