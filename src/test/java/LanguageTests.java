import java.io.IOException;
import java.lang.reflect.Field;
import java.lang.reflect.Method;
import java.lang.reflect.Modifier;
import java.nio.charset.StandardCharsets;
import java.nio.file.Files;
import java.nio.file.Path;
import java.util.Arrays;
import java.util.HashSet;
import java.util.Set;
import java.util.TreeSet;
import java.util.regex.Matcher;
import java.util.regex.Pattern;

/** What can be seen of ../shared/LANGUAGE.md's rules without reading: the face, words that may not stand, sizes. */
public final class LanguageTests {

    private static int wrong = 0;

    private static void rule(boolean kept, String what) {
        if (!kept) {
            wrong++;
            System.out.println("LANGUAGE: " + what);
        }
    }

    public static void main(String[] args) throws IOException {
        String source = Files.readString(Path.of("src/main/java/ClawBox.java"), StandardCharsets.ISO_8859_1);
        face();
        headings(source);
        words(source);
        sizes(source);
        classes();
        System.out.println(wrong == 0 ? "the rules that can be seen are kept" : wrong + " rules are broken");
        if (wrong != 0) {
            System.exit(1);
        }
    }

    /** Rule 1: just what 'The public face' of the document has. */
    private static void face() throws IOException {
        String doc = Files.readString(Path.of("../shared/DOC.md"));
        Set<String> due = new TreeSet<>();
        Matcher line = Pattern.compile("^    public (\\w+) (\\w+)\\((.*)\\);$", Pattern.MULTILINE).matcher(doc);
        while (line.find()) {
            String types = line.group(3).replaceAll("(int|long) \\w+", "$1").replace(" ", "");
            due.add(line.group(1) + " " + line.group(2) + "(" + types + ")");
        }
        Set<String> has = new TreeSet<>();
        for (Method m : ClawBox.class.getDeclaredMethods()) {
            if (!Modifier.isPrivate(m.getModifiers())) {
                String types = String.join(",", Arrays.stream(m.getParameterTypes()).map(Class::getName).toList());
                has.add(m.getReturnType().getName() + " " + m.getName() + "(" + types + ")");
                rule(Modifier.isPublic(m.getModifiers()) && !Modifier.isStatic(m.getModifiers()), m.toString());
            }
        }
        rule(due.size() == 36 && due.equals(has), "the face is " + has + ", due is " + due);
        int modifiers = ClawBox.class.getModifiers();
        rule(Modifier.isPublic(modifiers) && Modifier.isFinal(modifiers), "the class is public and final");
        rule(ClawBox.class.getConstructors().length == 1, "one constructor");
        for (Field f : ClawBox.class.getDeclaredFields()) {
            rule(Modifier.isPrivate(f.getModifiers()), f + " is private");
        }
    }

    /** The calls stand below what the document says ahead of them, in its order. */
    private static void headings(String source) throws IOException {
        String doc = Files.readString(Path.of("../shared/DOC.md"));
        Matcher ahead = Pattern.compile("Ahead of the calls (.*) the interface says: (---- .*)\\.\n").matcher(doc);
        int from = 0;
        int calls = 0;
        while (ahead.find()) {
            int at = source.indexOf("    // " + ahead.group(2) + "\n", from);
            rule(at > from, "'" + ahead.group(2) + "' stands behind what is ahead of it");
            from = Math.max(from, at);
            for (String call : ahead.group(1).split(", ")) {
                at = source.indexOf(" " + call.replace("`", "") + "(", from);
                rule(at > from && source.lastIndexOf("    public ", at) > from, call + " stands below " + ahead.group(2));
                from = Math.max(from, at);
                calls++;
            }
        }
        rule(calls == 36, "each call has a heading");
    }

    private static void words(String source) {
        for (char c : source.toCharArray()) {
            rule(c > 0 && c < 128, "a sign out of 1 .. 127");
        }
        String code = source.replaceAll("(?s)/\\*.*?\\*/", " ").replaceAll("//[^\n]*", " ")
            .replaceAll("\"[^\"\n]*\"", "\"\"").replaceAll("'[^'\n]'", "' '");
        String[] never = {"\\bthrows?\\b", "\\btry\\b", "\\bcatch\\b", "\\bfinally\\b", "\\bsynchronized\\b",
            "\\bassert\\b", "\\bimport\\b", "\\bpackage\\b", "->", "::", "\\w+Exact\\b", "\\bequals\\b", "\\bhashCode\\b",
            "\\btoString\\b", "\\bObject\\b", "\\bprotected\\b", "\\bstatic\\s*\\{", "\\bvolatile\\b", "\\bnull\\b",
            "\\bSystem\\.(?!arraycopy\\b)", "\\bThread\\b", "\\bdouble\\b", "\\bfloat\\b", "\\bException\\b"};
        for (String word : never) {
            Matcher m = Pattern.compile(word).matcher(code);
            rule(!m.find(), "may not stand: " + word);
        }
    }

    private static void sizes(String source) {
        String[] lines = source.split("\n");
        int from = -1;
        String head = "";
        for (int i = 0; i < lines.length; i++) {
            String line = lines[i];
            if (line.matches("    (    )?(public|private|int|boolean|void|Text|static|Row|Box)\\b.*\\) \\{")) {
                from = i;
                head = line;
                rule(line.split(",").length <= 7, "more than seven parameters: " + line);
            }
            if (from >= 0 && line.matches("    (    )?\\}") && line.indexOf('}') == head.length() - head.stripLeading().length()) {
                rule(i - from + 1 <= 60, "too long: " + head);
                from = -1;
            }
        }
    }

    private static void classes() {
        Set<String> open = new HashSet<>();
        for (Method m : ClawBox.class.getMethods()) {
            if (m.getDeclaringClass() == ClawBox.class) {
                open.add(m.getName());
            }
        }
        Class<?>[] inside = ClawBox.class.getDeclaredClasses();
        rule(inside.length <= 12, "at most some twelve classes");
        for (Class<?> c : inside) {
            rule(Modifier.isStatic(c.getModifiers()) && !Modifier.isPublic(c.getModifiers()), c + " is static, not public");
            rule(c.getDeclaredClasses().length == 0, c + " has no class inside");
            members(c, open);
        }
        members(ClawBox.class, open);
    }

    private static void members(Class<?> c, Set<String> open) {
        int fields = 0;
        for (Field f : c.getDeclaredFields()) {
            boolean fixed = Modifier.isStatic(f.getModifiers());
            fields += fixed ? 0 : 1;
            rule(!fixed || Modifier.isFinal(f.getModifiers()), f + " is static and not final");
        }
        rule(fields <= 20, c + " has " + fields + " fields");
        for (Method m : c.getDeclaredMethods()) {
            rule(Modifier.isPublic(m.getModifiers()) || !open.contains(m.getName()), m + " bears the name of a public one");
        }
    }
}
