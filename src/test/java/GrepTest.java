/** Promise 6, TOOLS: grep, its pattern and the lines of a text. */
public final class GrepTest {
    public static void main(String[] args) {
        firstArgument();
        arguments();
        matchingLines();
        otherLines();
        linesOfTexts();
        none();
        markAtTheBeginning();
        markAtTheEnd();
        bothMarks();
        marksElsewhere();
        pieces();
        emptyPieces();
        anyCharacter();
        plainCharacters();
        Probe.finish("GrepTest");
    }

    private static void matches(String pattern, String line, boolean want) {
        Probe probe = Probe.roomy();
        String output = line + "\n";
        probe.runs("echo '" + line + "'|grep '" + pattern + "'", want ? 0 : 1, want ? output : "");
        probe.runs("echo '" + line + "'|grep -v '" + pattern + "'", want ? 1 : 0, want ? "" : output);
        probe.does("echo -n '" + line + "'>f");
        probe.runs("grep '" + pattern + "' f", want && !line.isEmpty() ? 0 : 1, want && !line.isEmpty() ? output : "");
    }

    private static void firstArgument() {
        Probe.sentence("In grep a first argument -v is always that");
        Probe probe = Probe.roomy();
        probe.does("echo x-v>f;echo xv>>f");
        probe.runs("grep -v", 2, "");
        probe.runs("grep '-v' x f", 1, "");
        probe.runs("grep -'v' - f", 0, "xv\n");
        probe.runs("grep -v f", 1, "", 1);
        probe.runs("echo g|grep -v f", 0, "g\n");
        probe.runs("grep -v -v f", 0, "xv\n");
        probe.runs("grep -v -v<f", 0, "xv\n");
        probe.runs("grep -vv f", 1, "");
        probe.runs("grep ' -v' f", 1, "");
    }

    private static void arguments() {
        Probe.sentence("grep [-v] pattern [file]");
        Probe probe = Probe.roomy();
        probe.does("echo x-v>f");
        probe.runs("grep", 2, "");
        probe.runs("grep a b c", 2, "");
        probe.runs("grep -v a b c", 2, "");
        probe.runs("grep x -v", 1, "");
        probe.runs("grep x nosuch", 1, "");
        probe.runs("grep -v y nosuch", 1, "");
        probe.runs("grep x f /", 2, "");
        probe.runs("grep x /", 1, "");
        probe.runs("grep x f", 0, "x-v\n");
        probe.runs("grep -v y f", 0, "x-v\n");
        probe.runs("echo y|grep x f", 0, "x-v\n");
        probe.runs("nosuch;echo 127|grep $?", 0, "127\n");
    }

    private static Probe withLines() {
        Probe probe = Probe.roomy();
        probe.does("(echo ab;echo;echo abc;echo -n b)>f");
        return probe;
    }

    private static void matchingLines() {
        Probe.sentence("the lines that match (with -v: that do not), a NEWLINE behind each");
        Probe probe = withLines();
        probe.runs("grep a f", 0, "ab\nabc\n");
        probe.runs("grep b f", 0, "ab\nabc\nb\n");
        probe.runs("grep c f", 0, "abc\n");
        probe.runs("grep '' f", 0, "ab\n\nabc\nb\n");
        probe.runs("grep b<f", 0, "ab\nabc\nb\n");
    }

    private static void otherLines() {
        Probe.sentence("(with -v: that do not)");
        Probe probe = withLines();
        probe.runs("grep -v a f", 0, "\nb\n");
        probe.runs("grep -v b f", 0, "\n");
        probe.runs("grep -v x f", 0, "ab\n\nabc\nb\n");
        probe.runs("grep -v ^$ f", 0, "ab\nabc\nb\n");
        probe.runs("cat f|grep -v b", 0, "\n");
        probe.runs("grep -v '' f", 1, "");
    }

    private static void linesOfTexts() {
        Probe.sentence("Its LINES are the pieces that NEWLINEs end (without these), and what stands behind the last NEWLINE, if that is not empty.");
        Probe probe = Probe.roomy();
        probe.runs("echo -n|grep ''", 1, "");
        probe.runs("echo -n|grep -v x", 1, "");
        probe.runs("echo|grep ''", 0, "\n");
        probe.runs("(echo;echo)|grep ''", 0, "\n\n");
        probe.runs("echo -n a|grep ''", 0, "a\n");
        probe.runs("echo a|grep ''", 0, "a\n");
        probe.runs("(echo a;echo -n b)|grep ''", 0, "a\nb\n");
        probe.runs("(echo a;echo)|grep ''", 0, "a\n\n");
        probe.runs("(echo;echo -n a)|grep ''", 0, "\na\n");
        probe.runs("(echo a;echo b)|grep a.b", 1, "");
        probe.runs("(echo a;echo b)|grep ^b", 0, "b\n");
        probe.runs("(echo a;echo b)|grep a$", 0, "a\n");
    }

    private static void none() {
        Probe.sentence("status 1 if there are none");
        Probe probe = withLines();
        probe.runs("grep x f", 1, "");
        probe.runs("grep -v '' f", 1, "");
        probe.runs("grep ''", 1, "");
        probe.runs("grep -v x", 1, "");
        probe.does("cat>e");
        probe.runs("grep '' e", 1, "");
        probe.runs("grep -v '' e", 1, "");
        probe.runs("grep ^$ f", 0, "\n");
    }

    private static void markAtTheBeginning() {
        Probe.sentence("the piece must begin at the line's beginning if there is the mark ^");
        matches("^a", "ab", true);
        matches("^b", "ab", false);
        matches("^ab", "ab", true);
        matches("^ab", "aab", false);
        matches("^abc", "ab", false);
        matches("^longer", "long", false);
        matches("^", "", true);
        matches("^", "a", true);
        matches("^a", "", false);
        matches("^.", "", false);
        matches("^.b", "ab", true);
    }

    private static void markAtTheEnd() {
        Probe.sentence("and end at its end if there is the mark $");
        matches("b$", "ab", true);
        matches("a$", "ab", false);
        matches("a$", "aba", true);
        matches("ab$", "abab", true);
        matches("ab$", "aba", false);
        matches("longer$", "long", false);
        matches("$", "", true);
        matches("$", "a", true);
        matches("a$", "", false);
        matches(".$", "", false);
        matches("a.$", "ab", true);
    }

    private static void bothMarks() {
        Probe.sentence("A ^ as the first character of the pattern and a $ as the last one of what is left are marks");
        matches("^$", "", true);
        matches("^$", "a", false);
        matches("^ab$", "ab", true);
        matches("^ab$", "aba", false);
        matches("^ab$", "aab", false);
        matches("^a$", "aa", false);
        matches("^..$", "ab", true);
        matches("^..$", "a", false);
        matches("^..$", "abc", false);
    }

    private static void marksElsewhere() {
        Probe.sentence("the rest is the CORE");
        matches("$$", "a$", true);
        matches("$$", "$a", false);
        matches("^^", "^a", true);
        matches("^^", "a^", false);
        matches("a^", "a^", true);
        matches("a^", "a", false);
        matches("$a", "$a", true);
        matches("$a", "a", false);
        matches("$^", "x$^", true);
        matches("$^", "x", false);
        matches("^$$", "$", true);
        matches("^$$", "$$", false);
        matches("^^$", "^", true);
        matches("^^$", "", false);
        matches("a$b", "a$b", true);
        matches("a^b", "a^b", true);
        matches(" ^a", "a", false);
        matches("a$ ", "a", false);
    }

    private static void pieces() {
        Probe.sentence("A line matches if some piece of it .. is as long as the core and has, place by place, the characters of the core");
        matches("b", "abc", true);
        matches("bc", "abc", true);
        matches("abc", "abc", true);
        matches("abcd", "abc", false);
        matches("ac", "abc", false);
        matches("abab", "aabbab", false);
        matches("abab", "aabababb", true);
        matches("aab", "aaab", true);
        matches("longer", "long", false);
        matches("a b", "a b", true);
        matches("a", "", false);
    }

    private static void emptyPieces() {
        Probe.sentence("some piece of it (also an empty one)");
        matches("", "", true);
        matches("", "a", true);
        matches("^", "", true);
        matches("$", "abc", true);
        matches("^$", "", true);
        Probe probe = Probe.roomy();
        probe.does("(echo ab;echo;echo b)>f");
        probe.runs("grep ^b f;grep '' f;grep b$ f;grep '' f", 0, "b\nab\n\nb\nab\nb\nab\n\nb\n");
    }

    private static void anyCharacter() {
        Probe.sentence("for which a . may be any character");
        matches(".", "a", true);
        matches(".", " ", true);
        matches(".", ".", true);
        matches(".", "", false);
        matches("a.c", "xa cx", true);
        matches("a.c", "ac", false);
        matches("...", "ab", false);
        matches("...", "abc", true);
        matches("^.$", "ab", false);
    }

    private static void plainCharacters() {
        Probe.sentence("has, place by place, the characters");
        matches("a*", "aa", false);
        matches("a*", "a*", true);
        matches("[ab]", "a", false);
        matches("[ab]", "x[ab]", true);
        matches("a\\.", "a.", false);
        matches("a?", "a", false);
        matches("A", "a", false);
        matches("(a|b)", "a", false);
    }
}
