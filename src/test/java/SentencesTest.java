import java.nio.file.Files;
import java.nio.file.Path;
import java.util.ArrayList;
import java.util.List;
import java.util.regex.Matcher;
import java.util.regex.Pattern;
import java.util.stream.Stream;

/**
 * Every word of the promises and of the terms stands in a sentence that some test names as the one it is for. It reads the tests'
 * own texts for that; that the words named are the document's is checked where they are named.
 */
public final class SentencesTest {
    private static final Due due = new Due();
    private static final Pattern PROMISE = Pattern.compile("due\\.promise\\((\\d+), ((?:\\s*\\+?\\s*\"(?:[^\"\\\\]|\\\\.)*\")+)\\)");
    private static final Pattern TERM = Pattern.compile("due\\.term\\(((?:\\s*\\+?\\s*\"(?:[^\"\\\\]|\\\\.)*\")+)\\)");

    public static void main(String[] args) throws Exception {
        StringBuilder tests = new StringBuilder();
        try (Stream<Path> files = Files.list(Path.of("src/test/java"))) {
            for (Path file : files.filter(f -> f.toString().endsWith("Test.java")).sorted().toList()) tests.append(Files.readString(file));
        }
        for (int number = 1; number <= Doc.PROMISES; number++) promise(number, tests.toString());
        terms(tests.toString());
        due.end();
    }

    private static String joined(String literals) {
        return literals.replaceAll("\"\\s*\\+\\s*\"", "").trim().replaceAll("^\"|\"$", "");
    }

    private static void promise(int number, String tests) {
        due.part("promise " + number);
        List<String> named = new ArrayList<>();
        Matcher found = PROMISE.matcher(tests);
        while (found.find()) if (Integer.parseInt(found.group(1)) == number) named.add(joined(found.group(2)));
        // RefusalTest names the last sentence of each promise as it stands.
        named.add(Doc.refusal(number));
        rest(Doc.promise(number), named);
    }

    private static void terms(String tests) {
        due.part("terms");
        List<String> named = new ArrayList<>();
        Matcher found = TERM.matcher(tests);
        while (found.find()) named.add(joined(found.group(1)));
        String terms = Doc.terms().replace("```text", "");
        rest(terms.substring(terms.indexOf("I. THE TEXT"), terms.indexOf("The constants:")), named);
    }

    /** What no test names; marks alone don't count. */
    private static void rest(String text, List<String> named) {
        boolean[] had = new boolean[text.length()];
        for (String words : named) {
            int at = words.isEmpty() ? -1 : text.indexOf(words);
            for (int i = at; at >= 0 && i < at + words.length(); i++) had[i] = true;
        }
        StringBuilder left = new StringBuilder();
        for (int i = 0; i < had.length; i++) left.append(had[i] ? '|' : text.charAt(i));
        for (String piece : left.toString().split("\\|+")) {
            if (piece.matches("(?s).*[A-Za-z0-9].*")) due.is("no test names '" + piece.trim() + "'", true, false);
        }
    }
}
