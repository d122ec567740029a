import java.io.IOException;
import java.lang.reflect.Method;
import java.nio.file.Files;
import java.nio.file.Path;
import java.util.ArrayList;
import java.util.List;
import java.util.regex.Matcher;
import java.util.regex.Pattern;

/** README.md says what is so: its example, its table of the calls, its table of the ERRORS. */
public final class ReadmeTests {

    private static final List<String> ERRORS = List.of("BEYOND", "NONE", "STATE", "FULL", "KIND", "PARTED");

    private static int held = 0;
    private static int wrong = 0;

    private static void holds(boolean so, String what) {
        if (so) {
            held++;
        } else {
            wrong++;
            System.out.println("README: " + what);
        }
    }

    public static void main(String[] args) throws IOException, ReflectiveOperationException {
        String readme = Files.readString(Path.of("README.md"));
        String doc = Files.readString(Path.of("../shared/DOC.md"));
        example(readme);
        calls(readme, doc);
        errors(readme, doc);
        System.out.println(held + " sayings hold, " + wrong + " don't");
        if (wrong != 0) {
            System.exit(1);
        }
    }

    /** Each call of the example answers the number behind it. */
    private static void example(String readme) throws ReflectiveOperationException {
        Matcher block = Pattern.compile("```java\n(.*?)```", Pattern.DOTALL).matcher(readme);
        holds(block.find(), "there is an example");
        ClawBox box = new ClawBox();
        Matcher line = Pattern.compile("box\\.(\\w+)\\((.*?)\\); +// (-?\\d+)").matcher(block.group(1));
        int lines = 0;
        while (line.find()) {
            long got = answer(box, line.group(1), line.group(2));
            holds(got == Long.parseLong(line.group(3)), line.group() + ", but answers " + got);
            lines++;
        }
        holds(lines == block.group(1).split("\n").length - 1, "each line but the first is a call with its answer");
    }

    private static long answer(ClawBox box, String name, String told) throws ReflectiveOperationException {
        for (Method m : ClawBox.class.getMethods()) {
            if (m.getDeclaringClass() == ClawBox.class && m.getName().equals(name)) {
                List<Object> of = new ArrayList<>();
                for (String one : told.isEmpty() ? new String[0] : told.split(", ")) {
                    long v = Long.decode(one);
                    boolean isLong = m.getParameterTypes()[of.size()] == long.class;
                    of.add(isLong ? (Object) v : (Object) (int) v);
                }
                return ((Number) m.invoke(box, of.toArray())).longValue();
            }
        }
        throw new NoSuchMethodException(name);
    }

    /** Each call of the face has one row, with the ERRORS that its promise names, in their order. */
    private static void calls(String readme, String doc) {
        Matcher face = Pattern.compile("^    public (?:int|long) (\\w+\\(.*\\));$", Pattern.MULTILINE).matcher(doc);
        int calls = 0;
        while (face.find()) {
            String call = face.group(1);
            Matcher row = Pattern.compile("\n\\| `" + Pattern.quote(call) + "` \\| .* \\| (.*?) ?\\|\n").matcher(readme);
            boolean has = row.find();
            holds(has, "there is a row for " + call);
            holds(!has || row.group(1).equals(errorsOf(call, doc)), call + " has the ERRORS " + errorsOf(call, doc));
            calls++;
        }
        holds(calls == readme.split("\n\\| `", -1).length - 1, "a row for each call and no other");
    }

    private static String errorsOf(String call, String doc) {
        Matcher promise = Pattern.compile(" " + Pattern.quote(call) + "`: (.*)\n").matcher(doc);
        List<String> named = new ArrayList<>();
        if (promise.find()) {
            // The word KIND is a THING's, too; as an ERROR it begins a sentence.
            Matcher error = Pattern.compile("\\b(?:BEYOND|NONE|STATE|FULL|PARTED)\\b|(?<=\\. )KIND(?=:)")
                .matcher(promise.group(1));
            while (error.find()) {
                named.add(error.group());
            }
        }
        return String.join(" ", named);
    }

    /** Each ERROR has its number, and they stand in the order in which told() counts them. */
    private static void errors(String readme, String doc) {
        int from = 0;
        for (int k = 1; k <= ERRORS.size(); k++) {
            String error = ERRORS.get(k - 1);
            holds(doc.contains("LOW - " + k + " " + error), "LOW - " + k + " is " + error);
            int at = readme.indexOf("\n| " + error + " | " + (-1000000000 - k) + " |");
            holds(at > from, error + " stands with its number behind those ahead");
            from = at;
        }
    }
}
