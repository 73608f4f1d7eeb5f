import java.lang.reflect.Method;
import java.lang.reflect.Modifier;
import java.nio.file.Files;
import java.nio.file.Path;
import java.util.Set;
import java.util.TreeSet;
import java.util.regex.Matcher;
import java.util.regex.Pattern;

/** What README.md shows is so: its calls, made in their order on one object, answer what stands behind them. */
public final class ReadmeTest {
    private static final Due due = new Due();
    private static final Pattern LAND = Pattern.compile("```text\n(land [^\n]*)\n```");
    private static final Pattern CALL = Pattern.compile("(?m)^x\\.(\\w+)\\(([^)]*)\\); *// (-?\\d+|true|false)\\b");

    public static void main(String[] args) throws Exception {
        String page = Files.readString(Path.of("README.md"));
        due.part("README.md");
        Matcher land = LAND.matcher(page);
        due.is("a land is shown", true, land.find());
        SevenLeague x = new SevenLeague();
        Tapes.feed(x, land.group(1));
        Set<String> shown = new TreeSet<>(Set.of("feed"));
        Matcher call = CALL.matcher(page);
        while (call.find()) {
            shown.add(call.group(1));
            due.is(call.group(), number(call.group(3)), answer(x, call.group(1), call.group(2)));
        }
        due.is("lines that are calls", page.split("(?m)^x\\.", -1).length - 1, CALL.matcher(page).results().count());
        for (Method m : SevenLeague.class.getDeclaredMethods()) {
            if (Modifier.isPublic(m.getModifiers())) due.is(m.getName() + " is shown", true, shown.contains(m.getName()));
        }
        toldAsShown(page, land.group(1));
        due.end();
    }

    /** The page's own way to feed, as it stands there. */
    private static int tell(SevenLeague x, String text) {
        for (int i = 0; i < text.length(); i += 20) {
            int[] five = new int[5];
            for (int b = 0; b < 20; b++) {
                five[b / 4] = five[b / 4] << 8 | (i + b < text.length() ? text.charAt(i + b) : ' ');
            }
            x.feed(five[0], five[1], five[2], five[3], five[4]);
        }
        return x.land(text.length());
    }

    private static void toldAsShown(String page, String text) throws Exception {
        String own = Files.readString(Path.of("src/test/java/ReadmeTest.java")).replace("\n    ", "\n");
        String shown = page.substring(page.indexOf("static int tell("));
        due.is("tell() here is the page's", true, own.contains(shown.substring(0, shown.indexOf("\n}\n") + 3)));
        due.is("tell()", 20, tell(new SevenLeague(), text));
    }

    private static long number(String text) {
        return text.equals("true") ? 1 : text.equals("false") ? 0 : Long.parseLong(text);
    }

    private static long answer(SevenLeague x, String name, String given) throws Exception {
        String[] texts = given.isEmpty() ? new String[0] : given.split(", ");
        for (Method m : SevenLeague.class.getDeclaredMethods()) {
            if (!m.getName().equals(name) || m.getParameterCount() != texts.length) continue;
            Object[] values = new Object[texts.length];
            for (int i = 0; i < texts.length; i++) {
                boolean truth = m.getParameterTypes()[i] == boolean.class;
                values[i] = truth ? (Object) Boolean.valueOf(texts[i]) : (Object) Integer.valueOf(texts[i]);
            }
            Object answer = m.invoke(x, values);
            return answer instanceof Boolean b ? (b ? 1 : 0) : ((Number) answer).longValue();
        }
        due.is("there is a call " + name, true, false);
        return 0;
    }
}
