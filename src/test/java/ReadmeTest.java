import java.io.IOException;
import java.nio.file.Files;
import java.nio.file.Path;
import java.util.regex.Matcher;
import java.util.regex.Pattern;

/** Runs the lines that README.md shows, in their order on one shell. */
public final class ReadmeTest {
    // A row of the table: a line, what it answers, and the lines of its output.
    private static final Pattern ROW = Pattern.compile("^\\| `(.+)` \\| (-?\\d+) \\| `(.*)` \\|$", Pattern.MULTILINE);

    public static void main(String[] args) throws IOException {
        Matcher rows = ROW.matcher(Files.readString(Path.of("README.md")));
        Probe shell = Probe.roomy();
        while (rows.find()) {
            String line = rows.group(1).replace("\\|", "|");
            String output = rows.group(3).replace("`, `", "\n") + "\n";
            shell.runs(line, Integer.parseInt(rows.group(2)), output);
        }
        Probe.finish("ReadmeTest");
    }
}
