import java.io.IOException;
import java.nio.file.Files;
import java.nio.file.Path;
import java.util.List;
import java.util.regex.Matcher;
import java.util.regex.Pattern;

/** What LANGUAGE.md rules out, as far as the words of the source can tell it. */
public final class LanguageTest {
    private static final String[] RULED_OUT = {
        "->", "::", "\\bfinally\\b", "\\bsynchronized\\b", "\\bassert\\b", "\\bcatch\\b", "\\bpackage\\b",
        "\\bdouble\\b", "\\bfloat\\b", "Exact\\b", "\\bSystem\\.(?!arraycopy)", "\\bThread\\b", "\\bRandom\\b",
        "\\bextends\\b", "\\bstatic\\s*\\{", "\\btoString\\b", "\\bhashCode\\b", "\\bequals\\b", "\\bnull\\b",
        "\\bprotected\\b", "\\bnative\\b", "\\bwhile \\(true\\)", "for \\(;;\\)",
    };
    private static final int MOST_LINES = 60;
    private static final int MOST_DEEP = 8;

    public static void main(String[] args) throws IOException {
        String told = System.getenv("PROCESS_DESK_SOURCE");
        Path path = Path.of(told == null ? "src/main/java/ProcessDesk.java" : told);
        String source = Files.readString(path);
        String code = source.replaceAll("(?s)/\\*.*?\\*/", "").replaceAll("//[^\n]*", "");
        for (String out : RULED_OUT) {
            Matcher matcher = Pattern.compile(out).matcher(code);
            Check.same("ruled out: " + out, false, matcher.find());
        }
        Check.same("signs are 1 to 127", true, source.chars().allMatch(sign -> sign > 0 && sign < 128));
        imports(code);
        throwsOnly(code);
        lengths(code.lines().toList());
        Check.end("LanguageTest");
    }

    private static void imports(String code) {
        Matcher matcher = Pattern.compile("\\bimport ([^;]*);").matcher(code);
        while (matcher.find()) {
            Check.same("import", "java.util.NoSuchElementException", matcher.group(1));
        }
    }

    private static void throwsOnly(String code) {
        Matcher matcher = Pattern.compile("\\bthrow\\b([^;]*);").matcher(code);
        Pattern due = Pattern.compile(
                " new (NoSuchElement|IllegalArgument|IllegalState)Exception\\(\"[a-z ]*\"\\)");
        while (matcher.find()) {
            Check.same("throw" + matcher.group(1), true, due.matcher(matcher.group(1)).matches());
        }
    }

    /** Methods begin with a line that ends in "{" at one or two levels and end with "}" there. */
    private static void lengths(List<String> lines) {
        for (int from = 0; from < lines.size(); from++) {
            Matcher head = Pattern.compile("^( {4}| {8})\\S.*\\).*\\{$").matcher(lines.get(from));
            if (!head.matches()) {
                continue;
            }
            String end = head.group(1) + "}";
            int to = from;
            while (to < lines.size() && !lines.get(to).equals(end)) {
                to++;
            }
            Check.same("short: " + lines.get(from).trim(), true, to - from < MOST_LINES);
            int parameters = lines.get(from).split(",").length;
            Check.same("parameters: " + lines.get(from).trim(), true, parameters < MOST_DEEP);
        }
    }
}
