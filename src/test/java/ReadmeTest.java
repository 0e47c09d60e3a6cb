import java.io.IOException;
import java.nio.file.Files;
import java.nio.file.Path;
import java.util.HashMap;
import java.util.List;
import java.util.Map;
import java.util.regex.Matcher;
import java.util.regex.Pattern;

/** The example in README.md: each call is made, and answers what the text behind it says. */
public final class ReadmeTest {
    private static final Pattern ROW =
        Pattern.compile("(?:int (\\w+) = )?rings\\.(\\w+\\(.*\\)); +// (?:(\\d+)|(\\w+Exception))?.*");

    /** The numbers of the types and sets that the example gives a name. */
    private final Map<String, String> named = new HashMap<>();
    private final OwnerRings rings = new OwnerRings();
    private int rows = 0;
    private int wrong = 0;

    public static void main(String[] args) throws IOException {
        ReadmeTest test = new ReadmeTest();
        List<String> lines = Files.readAllLines(Path.of("README.md"));
        int begin = lines.indexOf("```java");
        int end = lines.indexOf("```");
        for (String line : lines.subList(begin + 2, end)) {
            test.check(line);
        }
        System.out.println(test.rows + " rows, " + test.wrong + " wrong");
        if (test.wrong != 0 || test.rows == 0) {
            System.exit(1);
        }
    }

    private void check(String line) {
        rows++;
        Matcher row = ROW.matcher(line);
        if (!row.matches()) {
            wrong++;
            System.out.println("not a row of the example: " + line);
            return;
        }
        String got = Call.read(withNumbers(row.group(2))).on(rings);
        String due = row.group(4) != null ? "throws." + row.group(4) : row.group(3) != null ? row.group(3) : "";
        if (row.group(1) != null) {
            named.put(row.group(1), got);
        }
        if (!got.equals(due)) {
            wrong++;
            System.out.println(line + " answered '" + got + "'");
        }
    }

    private String withNumbers(String call) {
        String text = call;
        for (Map.Entry<String, String> name : named.entrySet()) {
            text = text.replaceAll("\\b" + name.getKey() + "\\b", name.getValue());
        }
        return text;
    }
}
