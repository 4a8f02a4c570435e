import java.io.IOException;
import java.lang.reflect.InvocationTargetException;
import java.lang.reflect.Method;
import java.lang.reflect.Modifier;
import java.nio.file.Files;
import java.nio.file.Path;
import java.util.ArrayList;
import java.util.List;
import java.util.Set;
import java.util.TreeSet;
import java.util.regex.Matcher;
import java.util.regex.Pattern;
import java.util.stream.Stream;

/** What README.md says of calls, of their answers and of the tests must be so. */
public final class ReadmeTest {
    private static final String MADE = "ProcessDesk desk = new ProcessDesk();";
    private static final Pattern CALL =
            Pattern.compile("desk\\.(\\w+)\\(([^)]*)\\);   // (-?\\d+|throws \\w+)( \\(.*\\))?");
    private static final Pattern NAMED = Pattern.compile("`(\\w+)`");

    public static void main(String[] args) throws IOException, IllegalAccessException {
        List<String> lines = Files.readAllLines(Path.of("README.md"));
        List<String> java = block(lines, "```java");
        runAll(java);
        textIsWhatIsFed(block(lines, "```text"), java);
        Check.same("the calls of its table", face(), new TreeSet<>(table(lines, "| calls |")));
        Check.same("the tests of its table", tests(), new TreeSet<>(table(lines, "| test |")));
        Check.end("ReadmeTest");
    }

    private static List<String> block(List<String> lines, String head) {
        List<String> inside = new ArrayList<>();
        int from = lines.indexOf(head);
        Check.same(head + " is there", true, from >= 0);
        for (int i = from + 1; i < lines.size() && !lines.get(i).equals("```"); i++) {
            inside.add(lines.get(i));
        }
        Check.same(head + " stands once", from, lines.lastIndexOf(head));
        return inside;
    }

    private static void runAll(List<String> lines) throws IllegalAccessException {
        ProcessDesk desk = new ProcessDesk();
        Check.same("it begins with a new desk", MADE, lines.get(0));
        for (String line : lines.subList(1, lines.size())) {
            Matcher call = CALL.matcher(line);
            if (call.matches()) {
                Check.same(line, call.group(3), answer(desk, call.group(1), numbers(call.group(2))));
            } else {
                Check.same(line + " is no call", true, line.isEmpty() || line.startsWith("// "));
            }
        }
    }

    private static List<Integer> numbers(String told) {
        List<Integer> numbers = new ArrayList<>();
        for (String each : told.isEmpty() ? new String[0] : told.split(", ")) {
            numbers.add(Integer.decode(each.replace("_", "")));
        }
        return numbers;
    }

    private static String answer(ProcessDesk desk, String name, List<Integer> numbers) throws IllegalAccessException {
        for (Method method : ProcessDesk.class.getDeclaredMethods()) {
            if (isOfFace(method) && method.getName().equals(name) && method.getParameterCount() == numbers.size()) {
                try {
                    return String.valueOf(method.invoke(desk, numbers.toArray()));
                } catch (InvocationTargetException thrown) {
                    return "throws " + thrown.getCause().getClass().getSimpleName();
                }
            }
        }
        return "no such call";
    }

    /** The bytes of the feed calls, as many as the text is long, must be those of the text that is shown. */
    private static void textIsWhatIsFed(List<String> text, List<String> java) {
        StringBuilder fed = new StringBuilder();
        for (String line : java) {
            Matcher call = CALL.matcher(line);
            if (call.matches() && call.group(1).equals("feed")) {
                for (int number : numbers(call.group(2))) {
                    for (int shift = 24; shift >= 0; shift -= 8) {
                        fed.append((char) (number >> shift & 255));
                    }
                }
            }
        }
        Check.same("the text is one line", 1, text.size());
        String shown = text.get(0);
        Check.same("what is fed", shown, fed.substring(0, Math.min(shown.length(), fed.length())));
        Check.same("it is read whole", true,
                java.stream().anyMatch(line -> line.startsWith("desk.text(" + shown.length() + ");")));
    }

    /** The names in the first column of the table that begins so. */
    private static List<String> table(List<String> lines, String head) {
        List<String> names = new ArrayList<>();
        int from = 0;
        while (from < lines.size() && !lines.get(from).startsWith(head)) {
            from++;
        }
        for (int i = from + 2; i < lines.size() && lines.get(i).startsWith("|"); i++) {
            Matcher named = NAMED.matcher(lines.get(i).split("\\|")[1]);
            while (named.find()) {
                names.add(named.group(1));
            }
        }
        Check.same("names stand once behind " + head, new TreeSet<>(names).size(), names.size());
        return names;
    }

    private static boolean isOfFace(Method method) {
        return Modifier.isPublic(method.getModifiers());
    }

    private static Set<String> face() {
        Set<String> names = new TreeSet<>();
        for (Method method : ProcessDesk.class.getDeclaredMethods()) {
            if (isOfFace(method)) {
                names.add(method.getName());
            }
        }
        return names;
    }

    private static Set<String> tests() throws IOException {
        Set<String> names = new TreeSet<>();
        try (Stream<Path> files = Files.list(Path.of("src/test/java"))) {
            files.forEach(file -> names.add(file.getFileName().toString().replace(".java", "")));
        }
        return names;
    }
}
