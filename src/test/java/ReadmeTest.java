import java.nio.file.Files;
import java.nio.file.Path;
import java.util.HashMap;
import java.util.Map;
import java.util.regex.Matcher;
import java.util.regex.Pattern;

/** What README.md tells of its example's answers is so: its rows are performed in their order. */
public final class ReadmeTest {
    private static final Check CHECK = new Check("ReadmeTest");
    private static final Pattern MADE = Pattern.compile("NumberEleven (\\w) = new NumberEleven\\(\\);");
    private static final Pattern LETTERS = Pattern.compile("for \\(char letter : \"([^\"]*)\".*");
    private static final Pattern WRITTEN = Pattern.compile(" +(\\w)\\.write\\(letter\\);");
    private static final Pattern ASKED = Pattern.compile("(\\w)\\.(\\w+)\\(([\\d, ]*)\\); +// (-?\\w+): .*");

    private final Map<String, Script> objects = new HashMap<>();
    private String letters = "";
    private int answers;

    public static void main(String[] args) throws Exception {
        ReadmeTest test = new ReadmeTest();
        for (String row : Files.readString(Path.of("README.md")).split("\n")) {
            test.perform(row);
        }
        CHECK.due("answers are found", test.answers > 20 ? 1 : 0, 1);
        CHECK.end();
    }

    private void perform(String row) {
        Matcher made = MADE.matcher(row);
        Matcher text = LETTERS.matcher(row);
        Matcher written = WRITTEN.matcher(row);
        Matcher asked = ASKED.matcher(row);
        if (made.matches()) {
            objects.put(made.group(1), new Script(CHECK, "README.md"));
        } else if (text.matches()) {
            letters = text.group(1);
        } else if (written.matches()) {
            objects.get(written.group(1)).perform("text " + letters);
        } else if (asked.matches()) {
            String numbers = asked.group(3).isEmpty() ? "" : " " + asked.group(3).replace(",", "");
            objects.get(asked.group(1)).perform(asked.group(2) + numbers + " = " + asked.group(4));
            answers++;
        }
    }
}
