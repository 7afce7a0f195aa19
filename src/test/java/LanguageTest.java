import java.io.IOException;
import java.nio.file.Files;
import java.nio.file.Path;
import java.util.List;
import java.util.Map;
import java.util.Set;
import java.util.TreeMap;
import java.util.TreeSet;
import java.util.regex.Matcher;
import java.util.regex.Pattern;

/** The program keeps to those rules of ../shared/LANGUAGE.md that its text can show. */
public final class LanguageTest {
    private static final Path PROGRAM = Path.of("src/main/java/KeyringCourt.java");
    private static final Due due = new Due();

    private static final String[] FORBIDDEN = {
        "->", "::", "\\bcatch\\b", "\\btry\\b", "\\bfinally\\b", "\\bsynchronized\\b", "\\bassert\\b", "\\bpackage\\b", "\\bstatic \\{",
        "\\bSystem\\.(?!arraycopy)", "\\bMath\\.\\w*Exact", "\"", "\\bequals\\(", "\\bhashCode\\(", "\\btoString\\(", "\\bprotected\\b",
        "throw new (?!IllegalStateException\\(|IllegalArgumentException\\(|IndexOutOfBoundsException\\()",
    };

    public static void main(String[] args) throws IOException {
        String text = Files.readString(PROGRAM);
        String code = text.replaceAll("(?s)/\\*.*?\\*/", "").replaceAll("//[^\n]*", "");
        due.yes("all signs are 1 to 127", text.chars().allMatch(c -> c > 0 && c < 128));
        for (String forbidden : FORBIDDEN) {
            due.no("has " + forbidden, Pattern.compile(forbidden).matcher(code).find());
        }
        imports(code);
        lengths(List.of(code.split("\n")));
        fields(List.of(code.split("\n")));
        CALLED.keySet().forEach(name -> due.yes("no recursion, and at most eight deep: " + name, depth(name, 1) <= 8));
        due.end("LanguageTest");
    }

    private static void imports(String code) {
        Matcher matcher = Pattern.compile("import ([^;]*);").matcher(code);
        while (matcher.find()) {
            due.yes("imports " + matcher.group(1), List.of("java.util.ArrayList", "java.util.List").contains(matcher.group(1)));
        }
    }

    /** A method begins with an indented line that has parentheses and opens a brace, and ends with the brace of that indent. */
    private static void lengths(List<String> lines) {
        int first = -1;
        String end = "";
        for (int i = 0; i < lines.size(); i++) {
            String line = lines.get(i);
            if (first < 0 && line.matches(" {4}( {4})?[\\w<>\\[\\]]+.*\\).* \\{") && !line.matches(" *(for|if|while|switch) .*")) {
                first = i;
                end = line.replaceAll("\\S.*", "") + "}";
                due.yes("at most seven parameters: " + line, line.substring(0, line.indexOf(')')).split(",").length <= 7);
            } else if (first >= 0 && line.equals(end)) {
                due.yes("at most sixty lines: " + lines.get(first), i - first <= 60);
                addCalls(lines.subList(first, i));
                first = -1;
            }
        }
        due.yes("each method has an end", first < 0);
    }

    /** Of each method's name, what names stand with parentheses in its lines; methods of one name count as one. */
    private static final Map<String, Set<String>> CALLED = new TreeMap<>();

    private static void addCalls(List<String> lines) {
        String head = lines.get(0);
        String name = head.substring(0, head.indexOf('(')).replaceAll(".*\\W", "");
        Set<String> called = CALLED.computeIfAbsent(name, any -> new TreeSet<>());
        Matcher matcher = Pattern.compile("(\\w+)\\(").matcher(String.join("\n", lines.subList(1, lines.size())));
        while (matcher.find()) {
            called.add(matcher.group(1));
        }
    }

    private static int depth(String name, int above) {
        int deepest = 1;
        for (String called : CALLED.getOrDefault(name, Set.of())) {
            // A name that calls itself by way of others would go on without an end.
            if (above > 20) {
                return 20;
            }
            deepest = Math.max(deepest, CALLED.containsKey(called) ? 1 + depth(called, above + 1) : 1);
        }
        return deepest;
    }

    /** Each class has some twenty fields at most beside its constants, and no static field that is not final. */
    private static void fields(List<String> lines) {
        String type = "";
        int count = 0;
        int classes = 0;
        for (String line : lines) {
            if (line.matches("(public| {4}private static) final class .*")) {
                type = line;
                count = 0;
                classes++;
            } else if (line.matches(" {4}( {4})?(private|public) [^()]*(;| = .*;)")) {
                count += line.contains(" static final ") ? 0 : 1;
                due.no("a static field that changes: " + line, line.contains(" static ") && !line.contains(" final "));
                due.yes("some twenty fields at most: " + type, count <= 20);
            }
        }
        due.yes("some twelve classes at most", classes >= 2 && classes <= 12);
    }
}
