import java.io.IOException;
import java.nio.file.Files;
import java.nio.file.Path;
import java.util.List;
import java.util.regex.Matcher;
import java.util.regex.Pattern;

/** Those rules of LANGUAGE.md that can be told from the text of the class. */
public final class LanguageTest {
    private static final Path SOURCE = Path.of("src/main/java/TreeShell.java");
    private static final List<String> RULED_OUT = List.of(
        "throw", "throws", "try", "catch", "synchronized", "assert", "import", "package", "protected",
        "Object", "System.out", "toString", "hashCode", "Thread", "Random");

    public static void main(String[] args) throws IOException {
        String code = codeOf(Files.readString(SOURCE));
        for (String word : RULED_OUT) {
            boolean found = Pattern.compile("\\b" + Pattern.quote(word) + "\\b").matcher(code).find();
            Probe.due("the class has " + word, found, false);
        }
        Probe.due("a lambda or a method reference", code.contains("->") || code.contains("::"), false);
        Probe.due("at most twelve classes", count(code, "\\bclass \\w+") <= 12, true);
        Probe.due("static fields are final", count(code, "\\bstatic (int|long|char|boolean|String) \\w+( =|;)"), 0);
        methodsAreShort(code);
        Probe.finish("LanguageTest");
    }

    /** The text without comments, strings and characters. */
    private static String codeOf(String text) {
        return text.replaceAll("(?s)/\\*.*?\\*/", "").replaceAll("//.*", "")
            .replaceAll("'(\\\\.|[^'])'", "0").replaceAll("\"[^\"]*\"", "\"\"");
    }

    private static int count(String code, String regex) {
        int found = 0;
        for (Matcher matcher = Pattern.compile(regex).matcher(code); matcher.find();) {
            found++;
        }
        return found;
    }

    private static void methodsAreShort(String code) {
        Matcher heads = Pattern.compile("(?m)^ +[\\w\\[\\] ]*\\b(\\w+)\\(([^()]*)\\) \\{$").matcher(code);
        int methods = 0;
        while (heads.find()) {
            if (List.of("if", "for", "while", "switch").contains(heads.group(1))) {
                continue;
            }
            methods++;
            Probe.due(heads.group(1) + ": at most seven parameters", heads.group(2).split(",").length <= 7, true);
            Probe.due(heads.group(1) + ": at most sixty lines", linesFrom(code, heads.end()) <= 60, true);
        }
        Probe.due("methods were found", methods > 40, true);
    }

    private static int linesFrom(String code, int place) {
        int open = 1;
        int lines = 1;
        for (int i = place; i < code.length() && open > 0; i++) {
            char letter = code.charAt(i);
            open += letter == '{' ? 1 : letter == '}' ? -1 : 0;
            lines += letter == '\n' ? 1 : 0;
        }
        return lines;
    }
}
