import java.io.IOException;
import java.io.UncheckedIOException;
import java.nio.file.Files;
import java.nio.file.Path;
import java.util.regex.Matcher;
import java.util.regex.Pattern;

/** The document's words, so that a test can name the sentence that it stands for. */
final class Doc {
    static final int PROMISES = 62;
    private static final String TEXT = read();
    /** A refusal's sentence is the last one of its promise. */
    private static final Pattern REFUSAL = Pattern.compile("(NONE:|NONE, |NONE for|-100:|-1:|false:|NoSuchElementException if).*$");

    private Doc() {
    }

    private static String read() {
        try {
            return Files.readString(Path.of("../shared/DOC.md"));
        } catch (IOException e) {
            throw new UncheckedIOException(e);
        }
    }

    /** What a promise says, without its heading and the call's head. */
    static String promise(int number) {
        String behind = TEXT.substring(TEXT.indexOf("## Promise " + number + ":"));
        String line = behind.lines().filter(s -> s.startsWith("`")).findFirst().orElse("");
        return line.substring(line.indexOf("`: ") + 3);
    }

    static String terms() {
        return TEXT.substring(TEXT.indexOf("## Terms"), TEXT.indexOf("## Promise 1:"));
    }

    static String whatItIs() {
        return TEXT.substring(TEXT.indexOf("## What it is"), TEXT.indexOf("## The public face"));
    }

    /** The sentence that says what the call refuses; empty if it refuses nothing. */
    static String refusal(int number) {
        Matcher found = REFUSAL.matcher(promise(number));
        return found.find() ? found.group() : "";
    }
}
