import java.io.IOException;
import java.nio.file.Files;
import java.nio.file.Path;
import java.util.regex.Matcher;
import java.util.regex.Pattern;

/** The example in README.md: each call answers what the note beside it begins with. */
public final class ReadmeTest {
    private static final Pattern TYPED = Pattern.compile("type\\(grader, \"([^\"]*)\"\\);");
    private static final Pattern CALLED = Pattern.compile("grader\\.(\\w+\\([^)]*\\)); +// (-?\\d+)\\b.*");
    private static final Desk DESK = new Desk("ReadmeTest");

    public static void main(String[] args) throws IOException {
        String readme = Files.readString(Path.of("README.md"));
        String example = readme.split("```java\n", 2)[1].split("```", 2)[0];
        int calls = 0;
        for (String line : example.split("\n")) {
            if (play(line)) calls++;
        }
        DESK.due("the example has calls", calls > 20 ? 1 : 0, 1);
        DESK.end();
    }

    private static boolean play(String line) {
        Matcher typed = TYPED.matcher(line);
        Matcher called = CALLED.matcher(line);
        if (typed.matches()) {
            DESK.type(typed.group(1));
        } else if (called.matches()) {
            DESK.ask(called.group(1), Integer.parseInt(called.group(2)));
            return true;
        } else if (line.equals("RowGrader grader = new RowGrader();")) {
            DESK.begin("the example of README.md");
        } else {
            DESK.due("a line that can be played: " + line, 0, 1);
        }
        return false;
    }
}
