/** Promise 6: the seven tools. */
public final class ToolsTest {
    public static void main(String[] args) {
        echo();
        cat();
        wc();
        grepLines();
        grepMarks();
        grepArguments();
        ls();
        lsOrder();
        mkdir();
        cd();
        Probe.finish("ToolsTest");
    }

    private static void echo() {
        Probe probe = Probe.roomy();
        probe.runs("echo", 0, "\n");
        probe.runs("echo -n", 0, "");
        probe.runs("echo a", 0, "a\n");
        probe.runs("echo -n a b", 0, "a b");
        probe.runs("echo -n -n", 0, "-n");
        probe.runs("echo a -n", 0, "a -n\n");
        probe.runs("echo '-n' a", 0, "a");
        probe.runs("echo -'n' a", 0, "a");
        probe.runs("echo '' -n", 0, " -n\n");
        probe.runs("echo '-n ' a", 0, "-n  a\n");
        probe.runs("echo -nn a", 0, "-nn a\n");
        probe.runs("echo -e a", 0, "-e a\n");
        probe.runs("echo - -- -v", 0, "- -- -v\n");
        probe.runs("echo '' '' ''", 0, "  \n");
        probe.runs("echo a>f b c", 0, "");
        probe.runs("cat f", 0, "a b c\n");
        probe.runs("echo " + "a ".repeat(29), 0, "a ".repeat(28) + "a\n");
    }

    private static void cat() {
        Probe probe = Probe.roomy();
        probe.does("echo a>f;echo -n b>g;mkdir d;cat>e");
        probe.runs("cat f", 0, "a\n");
        probe.runs("cat f g f", 0, "a\nba\n");
        probe.runs("cat e", 0, "");
        probe.runs("cat", 0, "");
        probe.runs("echo x|cat", 0, "x\n");
        probe.runs("echo x|cat f", 0, "a\n");
        probe.runs("cat f nosuch", 1, "");
        probe.runs("cat nosuch f", 1, "");
        probe.runs("cat f d", 1, "");
        probe.runs("cat ''", 1, "");
        probe.runs("cat -", 1, "");
        probe.runs("cat -n f", 1, "");
    }

    private static void wc() {
        Probe probe = Probe.roomy();
        probe.runs("wc", 0, "0 0 0\n");
        probe.runs("echo|wc", 0, "1 0 1\n");
        probe.runs("echo -n a|wc", 0, "0 1 1\n");
        probe.runs("echo ' a  bc '|wc", 0, "1 2 8\n");
        probe.runs("echo -n '   '|wc", 0, "0 0 3\n");
        probe.runs("(echo a;echo;echo -n 'b c')>f;wc f", 0, "2 3 6\n");
        probe.runs("wc<f", 0, "2 3 6\n");
        probe.runs("echo x|wc f", 0, "2 3 6\n");
        probe.runs("wc f f", 2, "");
        probe.runs("wc nosuch nosuch", 2, "");
        probe.runs("wc nosuch", 1, "");
        probe.runs("wc /", 1, "");
        probe.runs("wc -l", 1, "");
        probe.does("echo -n>f;echo 'x x x x x x x x x x x x x x x x x x x x'>g");
        probe.does("echo '" + "y".repeat(39) + " '>>g;echo z>>g");
        probe.does("echo '" + "a ".repeat(25) + "'>>g");
        probe.runs("wc g", 0, "4 47 134\n");
        probe.runs("echo -n 123456789 |wc", 0, "0 1 9\n");
        probe.runs("echo 123456789 |wc", 0, "1 1 10\n");
    }

    private static void grepLines() {
        Probe probe = Probe.roomy();
        probe.does("(echo ab;echo;echo abc;echo -n b)>f");
        probe.runs("grep a f", 0, "ab\nabc\n");
        probe.runs("grep b f", 0, "ab\nabc\nb\n");
        probe.runs("grep -v a f", 0, "\nb\n");
        probe.runs("grep -v b f", 0, "\n");
        probe.runs("grep '' f", 0, "ab\n\nabc\nb\n");
        probe.runs("grep -v '' f", 1, "");
        probe.runs("grep x f", 1, "");
        probe.runs("grep -v x f", 0, "ab\n\nabc\nb\n");
        probe.runs("grep b<f", 0, "ab\nabc\nb\n");
        probe.runs("cat f|grep -v b", 0, "\n");
        probe.runs("grep ''", 1, "");
        probe.runs("grep -v x", 1, "");
        probe.runs("echo -n|grep ''", 1, "");
        probe.runs("echo|grep ''", 0, "\n");
        probe.runs("echo|grep .", 1, "");
        probe.runs("echo|grep -v .", 0, "\n");
        probe.runs("echo -n ab|grep ab", 0, "ab\n");
    }

    private static void matches(String pattern, String line, boolean want) {
        Probe probe = Probe.roomy();
        String output = line + "\n";
        probe.runs("echo '" + line + "'|grep '" + pattern + "'", want ? 0 : 1, want ? output : "");
        probe.runs("echo '" + line + "'|grep -v '" + pattern + "'", want ? 1 : 0, want ? "" : output);
    }

    private static void grepMarks() {
        matches("^a", "ab", true);
        matches("^b", "ab", false);
        matches("b$", "ab", true);
        matches("a$", "ab", false);
        matches("^ab$", "ab", true);
        matches("^ab$", "aba", false);
        matches("^ab$", "aab", false);
        matches("^a$", "aa", false);
        matches("a$", "aba", true);
        matches("^", "", true);
        matches("$", "", true);
        matches("^$", "", true);
        matches("^$", "a", false);
        matches("^", "a", true);
        matches("$", "a", true);
        matches("$", "$", true);
        matches("$$", "a$", true);
        matches("$$", "$a", false);
        matches("^^", "^a", true);
        matches("^^", "a^", false);
        matches("a^", "a^", true);
        matches("$a", "$a", true);
        matches("$a", "a", false);
        matches("$^", "x$^", true);
        matches("^$$", "$", true);
        matches("^$$", "$$", false);
        matches("^^$", "^", true);
        matches(".", "a", true);
        matches(".", "", false);
        matches("a.c", "xa cx", true);
        matches("a.c", "ac", false);
        matches("...", "ab", false);
        matches("^..$", "ab", true);
        matches("^..$", "abc", false);
        matches(".$", "a", true);
        matches("^.", "a", true);
        matches("a*", "aa", false);
        matches("a*", "a*", true);
        matches("[ab]", "a", false);
        matches("abab", "aabbab", false);
        matches("abab", "aabababb", true);
        matches("aab", "aaab", true);
        matches("A", "a", false);
        matches("a b", "a b", true);
        matches("longer", "long", false);
        matches("^longer", "long", false);
        matches("longer$", "long", false);
    }

    private static void grepArguments() {
        Probe probe = Probe.roomy();
        probe.does("echo x-v>f");
        probe.runs("grep", 2, "");
        probe.runs("grep -v", 2, "");
        probe.runs("grep '-v' x", 1, "");
        probe.runs("grep a b c", 2, "");
        probe.runs("grep -v a b c", 2, "");
        probe.runs("grep -v -v f", 1, "");
        probe.runs("grep -v -v", 1, "");
        probe.runs("echo x-v|grep -v -v", 1, "");
        probe.runs("echo xv|grep -v -v", 0, "xv\n");
        probe.runs("grep x -v", 1, "");
        probe.runs("grep -n f", 1, "");
        probe.runs("echo a-n|grep -n", 0, "a-n\n");
        probe.runs("grep x nosuch", 1, "");
        probe.runs("grep -v x nosuch", 1, "");
        probe.runs("grep x f /", 2, "");
        probe.runs("grep x /", 1, "");
        probe.runs("grep x f", 0, "x-v\n");
        probe.runs("nosuch;echo 127|grep $?", 0, "127\n");
    }

    private static void ls() {
        Probe probe = Probe.roomy();
        probe.runs("ls", 0, "");
        probe.does("mkdir d;echo x>f;echo y>d/g;mkdir d/h");
        probe.runs("ls", 0, "d/\nf\n");
        probe.runs("ls d", 0, "g\nh/\n");
        probe.runs("ls d/h", 0, "");
        probe.runs("ls f", 0, "f\n");
        probe.runs("ls d/g", 0, "g\n");
        probe.runs("ls /d/../f/", 0, "f\n");
        probe.runs("ls nosuch", 1, "");
        probe.runs("ls f/x", 1, "");
        probe.runs("ls d f", 2, "");
        probe.runs("ls nosuch nosuch", 2, "");
        probe.runs("ls ''", 0, "d/\nf\n");
        probe.runs("cd d;ls;ls ..;ls /", 0, "g\nh/\nd/\nf\nd/\nf\n");
    }

    private static void lsOrder() {
        Probe probe = Probe.roomy();
        String[] made = {"b", "ab", "a", "_", "0", ".a", "aa", "a.", "a0", "a_", "abcdefg", "9z"};
        for (int i = 0; i < made.length; i++) {
            probe.does(i % 2 == 0 ? "mkdir " + made[i] : "echo -n>" + made[i]);
        }
        probe.runs("ls", 0, ".a\n0/\n9z\n_\na/\na.\na0/\na_\naa/\nab\nabcdefg/\nb/\n");
    }

    private static void mkdir() {
        Probe probe = Probe.roomy();
        probe.does("mkdir d");
        probe.tree(1, 0, 0);
        probe.runs("ls;ls d", 0, "d/\n");
        probe.runs("mkdir d", 1, "");
        probe.runs("mkdir", 2, "");
        probe.runs("mkdir e f", 2, "");
        probe.runs("mkdir d d", 2, "");
        probe.runs("mkdir -p", 1, "");
        probe.does("echo>f");
        probe.runs("mkdir f", 1, "");
        probe.runs("mkdir f/g", 1, "");
        probe.does("mkdir d/f;cd d;mkdir g");
        probe.runs("ls;ls /", 0, "f/\ng/\nd/\nf\n");
        probe.tree(4, 1, 1);
    }

    private static void cd() {
        Probe probe = Probe.roomy();
        probe.does("mkdir d;mkdir d/e;echo -n>f");
        probe.does("cd d");
        probe.tree(3, 0, 1);
        probe.does("cd e");
        probe.tree(3, 0, 2);
        probe.runs("cd nosuch", 1, "");
        probe.runs("cd ../../f", 1, "");
        probe.runs("cd .. ..", 2, "");
        probe.runs("cd -", 1, "");
        probe.tree(3, 0, 2);
        probe.does("cd");
        probe.tree(3, 0, 0);
        probe.does("cd ..");
        probe.tree(3, 0, 0);
    }
}
