import java.io.IOException;
import java.nio.file.Files;
import java.nio.file.Path;
import java.util.List;
import java.util.regex.Matcher;
import java.util.regex.Pattern;

/** The program keeps to those rules of ../shared/LANGUAGE.md that its text can show. */
public final class LanguageTest {
    private static final Path PROGRAM = Path.of("src/main/java/KeyringCourt.java");
    private static final Due due = new Due();

    private static final String[] FORBIDDEN = {
        "->", "::", "\\bcatch\\b", "\\btry\\b", "\\bfinally\\b", "\\bsynchronized\\b", "\\bassert\\b", "\\bpackage\\b", "\\bstatic \\{",
        "\\bSystem\\.(?!arraycopy)", "\\bMath\\.\\w*Exact", "\"", "\\bequals\\(", "\\bhashCode\\(", "\\btoString\\(", "\\bprotected\\b",
        "throw new (?!IllegalStateException\\(|IllegalArgumentException\\(|IndexOutOfBoundsException\\()",
    };

    public static void main(String[] args) throws IOException {
        String text = Files.readString(PROGRAM);
        String code = text.replaceAll("(?s)/\\*.*?\\*/", "").replaceAll("//[^\n]*", "");
        due.yes("all signs are 1 to 127", text.chars().allMatch(c -> c > 0 && c < 128));
        for (String forbidden : FORBIDDEN) {
            due.no("has " + forbidden, Pattern.compile(forbidden).matcher(code).find());
        }
        imports(code);
        lengths(List.of(code.split("\n")));
        due.end("LanguageTest");
    }

    private static void imports(String code) {
        Matcher matcher = Pattern.compile("import ([^;]*);").matcher(code);
        while (matcher.find()) {
            due.yes("imports " + matcher.group(1), List.of("java.util.ArrayList", "java.util.List").contains(matcher.group(1)));
        }
    }

    /** A method begins with an indented line that has parentheses and opens a brace, and ends with the brace of that indent. */
    private static void lengths(List<String> lines) {
        int first = -1;
        String end = "";
        for (int i = 0; i < lines.size(); i++) {
            String line = lines.get(i);
            if (first < 0 && line.matches(" {4}( {4})?[\\w<>\\[\\]]+.*\\).* \\{") && !line.matches(" *(for|if|while|switch) .*")) {
                first = i;
                end = line.replaceAll("\\S.*", "") + "}";
                due.yes("at most seven parameters: " + line, line.substring(0, line.indexOf(')')).split(",").length <= 7);
            } else if (first >= 0 && line.equals(end)) {
                due.yes("at most sixty lines: " + lines.get(first), i - first <= 60);
                first = -1;
            }
        }
        due.yes("each method has an end", first < 0);
    }
}
