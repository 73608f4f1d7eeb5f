import java.lang.reflect.Constructor;
import java.lang.reflect.Field;
import java.lang.reflect.Member;
import java.lang.reflect.Method;
import java.lang.reflect.Modifier;
import java.nio.file.Files;
import java.nio.file.Path;
import java.util.ArrayList;
import java.util.List;
import java.util.Set;
import java.util.TreeSet;
import java.util.regex.Matcher;
import java.util.regex.Pattern;

/** The face is the document's and no more, and the source keeps to what can be tested of ../shared/LANGUAGE.md. */
public final class FaceTest {
    private static int wrong = 0;

    public static void main(String[] args) throws Exception {
        Set<String> face = faceOfDocument(Files.readString(Path.of("../shared/DOC.md")));
        check(face.size() == 63, "the document has 62 promises and a constant: " + face.size());
        compare(face, faceOfClass());
        check(Modifier.isFinal(SevenLeague.class.getModifiers()), "the class is final");
        hidden();
        nested();
        source(Files.readString(Path.of("src/main/java/SevenLeague.java")));
        System.out.println(wrong == 0 ? "face and source are as due" : wrong + " faults");
        if (wrong != 0) System.exit(1);
    }

    private static void check(boolean so, String what) {
        if (!so) {
            wrong++;
            System.out.println("not so: " + what);
        }
    }

    // ---- the face

    private static Set<String> faceOfDocument(String doc) {
        Set<String> face = new TreeSet<>();
        String code = doc.substring(doc.indexOf("```java") + 7);
        for (String line : code.substring(0, code.indexOf("```")).split("\n")) {
            String text = line.trim();
            if (!text.startsWith("public") || text.startsWith("public final class")) continue;
            face.add(text.replaceAll("(\\w+) \\w+([,)])", "$1$2").replaceAll(" = ", "="));
        }
        return face;
    }

    private static Set<String> faceOfClass() throws Exception {
        Set<String> face = new TreeSet<>();
        for (Field f : SevenLeague.class.getFields()) {
            face.add("public static final " + f.getType() + " " + f.getName() + "=" + f.get(null) + ";");
        }
        for (Constructor<?> c : SevenLeague.class.getConstructors()) face.add("public SevenLeague(" + types(c.getParameterTypes()) + ");");
        for (Method m : SevenLeague.class.getDeclaredMethods()) {
            if (!Modifier.isPublic(m.getModifiers())) continue;
            String thrown = m.getExceptionTypes().length == 0 ? "" : " throws " + m.getExceptionTypes()[0].getSimpleName();
            face.add("public " + m.getReturnType() + " " + m.getName() + "(" + types(m.getParameterTypes()) + ")" + thrown + ";");
        }
        return face;
    }

    private static String types(Class<?>[] types) {
        List<String> names = new ArrayList<>();
        for (Class<?> t : types) names.add(t.getSimpleName());
        return String.join(", ", names);
    }

    private static void compare(Set<String> due, Set<String> got) {
        for (String s : due) check(got.contains(s), "the class has " + s);
        for (String s : got) check(due.contains(s), "the document has " + s);
    }

    private static void hidden() {
        List<Member> members = new ArrayList<>();
        members.addAll(List.of(SevenLeague.class.getDeclaredFields()));
        members.addAll(List.of(SevenLeague.class.getDeclaredMethods()));
        members.addAll(List.of(SevenLeague.class.getDeclaredConstructors()));
        Set<String> names = new TreeSet<>();
        for (Method m : SevenLeague.class.getDeclaredMethods()) if (Modifier.isPublic(m.getModifiers())) names.add(m.getName());
        for (Member m : members) {
            boolean open = Modifier.isPublic(m.getModifiers()), own = Modifier.isPrivate(m.getModifiers());
            check(open || own, "rule 1: " + m.getName() + " is public or private");
            check(open || m instanceof Field || !names.contains(m.getName()), "rule 1: no private method is called " + m.getName());
        }
    }

    private static void nested() {
        Class<?>[] classes = SevenLeague.class.getDeclaredClasses();
        check(classes.length < 12, "rule 11: some twelve classes");
        sizes(SevenLeague.class);
        for (Class<?> c : classes) {
            check(Modifier.isStatic(c.getModifiers()), "rule 1: static " + c);
            sizes(c);
        }
    }

    private static void sizes(Class<?> c) {
        int fields = 0;
        for (Field f : c.getDeclaredFields()) {
            boolean fixed = Modifier.isStatic(f.getModifiers());
            check(!fixed || Modifier.isFinal(f.getModifiers()), "rule 5: final " + f);
            fields += fixed ? 0 : 1;
        }
        check(fields <= 20, "rule 11: some twenty fields in " + c);
        for (Method m : c.getDeclaredMethods()) check(m.getParameterCount() <= 7, "rule 11: seven parameters in " + m);
    }

    // ---- the source

    private static void source(String text) {
        String code = text.replaceAll("(?s)/\\*.*?\\*/", "").replaceAll("//[^\n]*", "").replaceAll("\"[^\"\n]*\"", "\"\"");
        for (String word : new String[] {"try", "catch", "finally", "synchronized", "assert", "package", "System", "Thread", "Random",
            "Object", "hashCode", "toString", "instanceof", "record", "var", "volatile", "transient", "native", "equals", "float", "double"}) {
            check(!Pattern.compile("\\b" + word + "\\b").matcher(code).find(), "the source does without " + word);
        }
        check(!code.contains("->") && !code.contains("::"), "rule 2: no lambda, no method reference");
        check(!code.contains("Exact("), "rule 4: no Exact");
        check(!Pattern.compile("static \\{").matcher(code).find(), "rule 5: no static initialiser");
        check(!Pattern.compile("\"\"\\s*\\+|\\+\\s*\"\"").matcher(code).find(), "rule 10: no texts joined by +");
        check(!Pattern.compile("while \\(true|for \\(;").matcher(code).find(), "rule 9: loops with an end");
        Matcher imports = Pattern.compile("import ([\\w.]+);").matcher(code);
        while (imports.find()) check(imports.group(1).equals("java.util.NoSuchElementException"), "no import of " + imports.group(1));
        Matcher thrown = Pattern.compile("throw ([^;]*);").matcher(code);
        while (thrown.find()) check(thrown.group(1).equals("new NoSuchElementException()"), "thrown: " + thrown.group(1));
        for (char c : text.toCharArray()) check(c == '\n' || c >= ' ' && c < 127, "plain signs, not " + (int) c);
        lengths(code);
    }

    /** A method's body stands between a line that ends its head and the brace at the same indent. */
    private static void lengths(String code) {
        String[] lines = code.split("\n");
        for (int i = 0; i < lines.length; i++) {
            Matcher head = Pattern.compile("^( {4}| {8})(?!(private|public) (static )?final class)\\w.*\\) (throws \\w+ )?\\{$").matcher(lines[i]);
            if (!head.find()) continue;
            int end = i;
            while (end < lines.length && !lines[end].equals(head.group(1) + "}")) end++;
            check(end - i <= 60, "rule 11: sixty lines: " + lines[i].trim());
        }
    }
}
