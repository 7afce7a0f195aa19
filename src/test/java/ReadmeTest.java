import java.io.IOException;
import java.nio.file.Files;
import java.nio.file.Path;
import java.util.HashMap;
import java.util.Map;
import java.util.regex.Matcher;
import java.util.regex.Pattern;

/** The calls that README.md shows answer what it says, and it says how to run the tests. */
public final class ReadmeTest {
    private static final Pattern CALL = Pattern.compile("(?:int (\\w+) = )?court\\.(\\w+)\\((.*)\\); *// (throws )?([\\w-]+)(:.*)?");
    private static final Due due = new Due();

    private final KeyringCourt court = new KeyringCourt();
    private final Map<String, Object> numbers = new HashMap<>();

    public static void main(String[] args) throws IOException, IllegalAccessException {
        String text = Files.readString(Path.of("README.md"));
        due.yes("it says how to run the tests", text.contains("## How to run the tests") && text.contains(".ci/run"));
        for (String file : Path.of("src/test/java").toFile().list()) {
            if (file.endsWith("Test.java")) {
                due.yes("it names " + file, text.contains("`" + file.substring(0, file.indexOf('.')) + "`"));
            }
        }
        int first = text.indexOf("```java\n");
        due.yes("it shows calls", first >= 0);
        new ReadmeTest().playAll(text.substring(first + 8, text.indexOf("```\n", first + 8)).split("\n"));
        due.end("ReadmeTest");
    }

    private void playAll(String[] lines) throws IllegalAccessException {
        due.yes("a new object comes first", lines[0].equals("KeyringCourt court = new KeyringCourt();"));
        for (int i = 1; i < lines.length; i++) {
            Matcher call = CALL.matcher(lines[i]);
            if (call.matches()) {
                playOne(lines[i], call);
            } else {
                due.yes("nothing else but comments: " + lines[i], lines[i].isEmpty() || lines[i].startsWith("//"));
            }
        }
    }

    private void playOne(String line, Matcher call) throws IllegalAccessException {
        String[] words = call.group(3).isEmpty() ? new String[0] : call.group(3).split(", ");
        Object[] values = new Object[words.length];
        for (int i = 0; i < words.length; i++) {
            values[i] = valueOf(words[i]);
        }
        String want = call.group(4) == null ? String.valueOf(valueOf(call.group(5))) : "throws." + call.group(5);
        String got = Calls.play(court, call.group(2), values);
        due.yes(line + " answered " + got, got.equals(want));
        if (call.group(1) != null) {
            numbers.put(call.group(1), Integer.valueOf(got));
        }
    }

    private Object valueOf(String word) throws IllegalAccessException {
        if (word.equals("true") || word.equals("false")) {
            return Boolean.valueOf(word);
        }
        if (numbers.containsKey(word)) {
            return numbers.get(word);
        }
        String name = word.replace("KeyringCourt.", "");
        try {
            return Character.isUpperCase(name.charAt(0)) ? KeyringCourt.class.getField(name).getInt(null) : Integer.valueOf(name);
        } catch (NoSuchFieldException e) {
            throw new IllegalArgumentException(word, e);
        }
    }
}
