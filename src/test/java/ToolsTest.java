/** Promise 6, TOOLS: the seven tools with fewer and more arguments, files that are not there, empty inputs. */
public final class ToolsTest {
    public static void main(String[] args) {
        fewerArguments();
        moreArguments();
        misuseComesFirst();
        otherStatusesHaveNoOutput();
        dashesAreWords();
        pathsOfFiles();
        withoutAFile();
        echoWords();
        echoWithoutNewline();
        catFiles();
        catInput();
        wcNumbers();
        lsFiles();
        lsDirectories();
        lsOrder();
        mkdir();
        mkdirNotVacant();
        cd();
        cdNoDirectory();
        Probe.finish("ToolsTest");
    }

    /** One directory d with a file in it, two files, one of them empty. */
    private static Probe withFiles() {
        Probe probe = Probe.roomy();
        probe.does("mkdir d;echo 'a b'>f;cat>e;echo x>d/g");
        return probe;
    }

    private static void fewerArguments() {
        Probe.sentence("Arguments that are not as shown, fewer .. of them: status 2");
        Probe probe = withFiles();
        probe.runs("grep", 2, "", 1);
        probe.runs("grep -v", 2, "", 1);
        probe.runs("mkdir", 2, "", 1);
        probe.runs("echo a|grep", 2, "", 2);
        probe.runs("grep<f", 2, "", 1);
        probe.runs("mkdir>f", 2, "", 1);
        probe.runs("echo", 0, "\n");
        probe.runs("cat", 0, "");
        probe.runs("wc", 0, "0 0 0\n");
        probe.runs("ls", 0, "d/\ne\nf\n");
        probe.does("cd d;cd");
        probe.tree(4, 2, 0);
    }

    private static void moreArguments() {
        Probe.sentence("Arguments that are not as shown, .. more of them: status 2");
        String[] lines = {
            "wc f f", "wc f f f", "grep a f f", "grep -v a f f", "grep a b c d", "ls d d", "ls d d d", "mkdir x y",
            "mkdir x y z", "cd d d", "cd d d d", "wc '' ''", "ls '' ''", "mkdir x ''", "cd d ''", "grep '' f ''",
        };
        for (String line : lines) {
            Probe probe = withFiles();
            probe.runs(line, 2, "", 1);
            probe.runs("echo a|" + line, 2, "", 2);
            probe.runs(line + ">>f", 2, "", 1);
            probe.tree(4, 6, 0);
        }
        Probe probe = withFiles();
        probe.runs("cat f e f e d/g", 0, "a b\na b\nx\n");
        probe.runs("echo " + "a ".repeat(29), 0, "a ".repeat(28) + "a\n");
    }

    private static void misuseComesFirst() {
        Probe.sentence("status 2, before all else");
        Probe probe = withFiles();
        probe.runs("wc nosuch nosuch", 2, "");
        probe.runs("wc d nosuch", 2, "");
        probe.runs("grep x nosuch f", 2, "");
        probe.runs("grep -v x nosuch /", 2, "");
        probe.runs("ls nosuch nosuch", 2, "");
        probe.runs("mkdir d d", 2, "");
        probe.runs("mkdir A nosuch/x", 2, "");
        probe.runs("cd nosuch nosuch", 2, "");
        probe.runs("cd f f", 2, "");
        probe.runs("wc f f<nosuch", 1, "", 0);
    }

    private static void otherStatusesHaveNoOutput() {
        Probe.sentence("Status 0, where nothing else is said; with any other status the output is empty.");
        Probe probe = withFiles();
        probe.runs("cat f nosuch", 1, "");
        probe.runs("cat f nosuch>>f", 1, "");
        probe.runs("cat f d|wc", 0, "0 0 0\n");
        probe.runs("grep x f|wc", 0, "0 0 0\n");
        probe.runs("nosuch a|wc", 0, "0 0 0\n");
        probe.runs("cat f", 0, "a b\n");
    }

    private static void dashesAreWords() {
        Probe.sentence("all other arguments are words, paths or the pattern, also if they begin with - (but the -n of echo)");
        Probe probe = withFiles();
        probe.runs("cat -", 1, "");
        probe.runs("cat -n f", 1, "");
        probe.runs("wc -l", 1, "");
        probe.runs("wc -l f", 2, "");
        probe.runs("ls -l", 1, "");
        probe.runs("ls -a d", 2, "");
        probe.runs("mkdir -p", 1, "");
        probe.runs("mkdir -p x", 2, "");
        probe.runs("cd -", 1, "");
        probe.runs("echo - -- -v -e", 0, "- -- -v -e\n");
        probe.runs("echo -e a", 0, "-e a\n");
        probe.runs("grep -n f", 1, "");
        probe.runs("echo a-n|grep -n", 0, "a-n\n");
        probe.runs("grep a -v", 1, "");
        probe.runs("grep a -v f", 2, "");
    }

    private static void pathsOfFiles() {
        Probe.sentence("[file] is a path: if it does not name a file, status 1");
        for (String path : new String[] {"nosuch", "d", "/", "''", ".", "..", "d/f", "f/x", "f/..", "A", "toolong8", "-"}) {
            Probe probe = withFiles();
            probe.runs("wc " + path, 1, "", 1);
            probe.runs("grep '' " + path, 1, "", 1);
            probe.runs("grep -v x " + path, 1, "", 1);
            probe.runs("echo a|wc " + path, 1, "", 2);
            probe.runs("echo a|grep a " + path, 1, "", 2);
            probe.tree(4, 6, 0);
        }
        Probe probe = withFiles();
        probe.runs("wc f;wc d/g;wc /d/../f", 0, "1 2 4\n1 1 2\n1 2 4\n");
        probe.runs("grep x d/g;grep a f/", 0, "x\na b\n");
    }

    private static void withoutAFile() {
        Probe.sentence("without it the tool reads its input");
        Probe probe = withFiles();
        probe.runs("wc<f", 0, "1 2 4\n");
        probe.runs("grep a<f", 0, "a b\n");
        probe.runs("cat f|wc", 0, "1 2 4\n");
        probe.runs("cat f|grep -v x", 0, "a b\n");
        probe.runs("echo y|wc f", 0, "1 2 4\n");
        probe.runs("echo y|grep a f", 0, "a b\n");
        probe.runs("wc<e;cat e|wc;cat<e", 0, "0 0 0\n0 0 0\n");
        probe.runs("grep ''<e", 1, "");
        probe.runs("grep '' e", 1, "");
    }

    private static void echoWords() {
        Probe.sentence("echo [-n] words: the words with one space between each two, and a NEWLINE");
        Probe probe = Probe.roomy();
        probe.runs("echo", 0, "\n");
        probe.runs("echo a", 0, "a\n");
        probe.runs("echo a b", 0, "a b\n");
        probe.runs("echo   a    b", 0, "a b\n");
        probe.runs("echo ''", 0, "\n");
        probe.runs("echo '' '' ''", 0, "  \n");
        probe.runs("echo ' a ' b", 0, " a  b\n");
        probe.runs("echo a>f b c", 0, "");
        probe.runs("cat f", 0, "a b c\n");
        probe.runs("echo x|echo a", 0, "a\n");
    }

    private static void echoWithoutNewline() {
        Probe.sentence("but not if the first argument is -n (which is not put out)");
        Probe probe = Probe.roomy();
        probe.runs("echo -n", 0, "");
        probe.runs("echo -n a b", 0, "a b");
        probe.runs("echo -n -n", 0, "-n");
        probe.runs("echo -n ''", 0, "");
        probe.runs("echo -n '' ''", 0, " ");
        probe.runs("echo a -n", 0, "a -n\n");
        probe.runs("echo '-n' a", 0, "a");
        probe.runs("echo -'n' a", 0, "a");
        probe.runs("echo '' -n", 0, " -n\n");
        probe.runs("echo '-n ' a", 0, "-n  a\n");
        probe.runs("echo -nn a", 0, "-nn a\n");
        probe.runs("echo - n", 0, "- n\n");
    }

    private static void catFiles() {
        Probe.sentence("cat files: the contents of all of them in turn (status 1 if one of the paths does not name a file)");
        Probe probe = withFiles();
        probe.does("echo -n y>h");
        probe.runs("cat f", 0, "a b\n");
        probe.runs("cat f h f", 0, "a b\nya b\n");
        probe.runs("cat h f e d/g", 0, "ya b\nx\n");
        probe.runs("cat e", 0, "");
        probe.runs("echo x|cat f", 0, "a b\n");
        probe.runs("cat nosuch", 1, "");
        probe.runs("cat f nosuch", 1, "");
        probe.runs("cat nosuch f", 1, "");
        probe.runs("cat f d f", 1, "");
        probe.runs("cat d", 1, "");
        probe.runs("cat ''", 1, "");
        probe.runs("cat f ''", 1, "");
    }

    private static void catInput() {
        Probe.sentence("without arguments, its input");
        Probe probe = withFiles();
        probe.runs("cat", 0, "");
        probe.runs("echo x|cat", 0, "x\n");
        probe.runs("cat<f", 0, "a b\n");
        probe.runs("cat<e", 0, "");
        probe.runs("echo -n|cat", 0, "");
    }

    private static void counts(String texts, String due) {
        Probe probe = Probe.roomy();
        probe.does("(" + texts + ")>f");
        probe.runs("wc f", 0, due + "\n");
        probe.runs("wc<f", 0, due + "\n");
    }

    private static void wcNumbers() {
        Probe.sentence("how many NEWLINEs, how many words (longest pieces without spaces and NEWLINEs), how many characters and NEWLINEs together");
        counts("echo -n", "0 0 0");
        counts("echo", "1 0 1");
        counts("echo -n a", "0 1 1");
        counts("echo a", "1 1 2");
        counts("echo -n ' '", "0 0 1");
        counts("echo -n '   '", "0 0 3");
        counts("echo ' a  bc '", "1 2 8");
        counts("echo;echo;echo", "3 0 3");
        counts("echo a;echo b", "2 2 4");
        counts("echo a;echo;echo -n 'b c'", "2 3 6");
        counts("echo -n a;echo -n b", "0 1 2");
        counts("echo -n 123456789", "0 1 9");
        counts("echo 123456789", "1 1 10");
        counts("echo;echo;echo;echo;echo;echo;echo;echo;echo", "9 0 9");
        counts("echo;echo;echo;echo;echo;echo;echo;echo;echo;echo", "10 0 10");
        Probe probe = Probe.roomy();
        probe.does("echo '" + "a ".repeat(25) + "'>f");
        probe.does("echo " + "b".repeat(47) + ">>f");
        probe.runs("wc f", 0, "2 26 99\n");
        probe.does("echo>>f");
        probe.runs("wc f", 0, "3 26 100\n");
        probe.does("echo " + "c ".repeat(20) + ">>f");
        probe.does("echo " + "d".repeat(19) + ">>f");
        probe.runs("wc f", 0, "5 47 160\n");
    }

    private static void lsFiles() {
        Probe.sentence("ls [path]: status 1 if it names nothing; for a file its name and a NEWLINE");
        Probe probe = withFiles();
        probe.runs("ls nosuch", 1, "");
        probe.runs("ls d/nosuch", 1, "");
        probe.runs("ls f/x", 1, "");
        probe.runs("ls toolong8", 1, "");
        probe.runs("ls f", 0, "f\n");
        probe.runs("ls d/g", 0, "g\n");
        probe.runs("ls /d/../e/", 0, "e\n");
        probe.does("cat>abcdefg");
        probe.runs("ls abcdefg", 0, "abcdefg\n");
    }

    private static void lsDirectories() {
        Probe.sentence("for a directory (without a path: HERE) the names of the nodes in it");
        Probe probe = Probe.roomy();
        probe.runs("ls", 0, "");
        probe.runs("ls /", 0, "");
        probe.does("mkdir d;echo x>f;echo y>d/g;mkdir d/h");
        probe.runs("ls", 0, "d/\nf\n");
        probe.runs("ls ''", 0, "d/\nf\n");
        probe.runs("ls d", 0, "g\nh/\n");
        probe.runs("ls d/h", 0, "");
        probe.runs("cd d;ls;ls ..;ls /;ls h", 0, "g\nh/\nd/\nf\nd/\nf\n");
        Probe.sentence("with / behind a directory's name, and a NEWLINE behind each");
        probe.does("mkdir h/abcdefg;cat>h/abcdef");
        probe.runs("ls h", 0, "abcdef\nabcdefg/\n");
    }

    private static void lsOrder() {
        Probe.sentence("sorted by the codes of the first character at which two differ (a name comes before longer ones that begin with it)");
        Probe probe = Probe.roomy();
        String[] made = {"b", "ab", "a", "_", "0", ".a", "aa", "a.", "a0", "a_", "abcdefg", "9z"};
        for (int i = 0; i < made.length; i++) {
            probe.does(i % 2 == 0 ? "mkdir " + made[i] : "echo -n>" + made[i]);
        }
        probe.runs("ls", 0, ".a\n0/\n9z\n_\na/\na.\na0/\na_\naa/\nab\nabcdefg/\nb/\n");
        Probe longs = Probe.roomy();
        longs.does("cat>abcdefg;cat>abcdeff;mkdir abcdef;cat>abcdefh;cat>abcde");
        longs.runs("ls", 0, "abcde\nabcdef/\nabcdeff\nabcdefg\nabcdefh\n");
        longs.does("mkdir z;cat>z/zzzzzzz;cat>z/z;cat>z/_;cat>z/...");
        longs.runs("ls z", 0, "...\n_\nz\nzzzzzzz\n");
    }

    private static void mkdir() {
        Probe.sentence("mkdir path: a new empty directory there");
        Probe probe = withFiles();
        probe.does("mkdir n");
        probe.tree(5, 6, 0);
        probe.runs("ls;ls n", 0, "d/\ne\nf\nn/\n");
        probe.does("mkdir d/f;mkdir d/f/g;cd d;mkdir h;mkdir /i");
        probe.runs("ls;ls /", 0, "f/\ng\nh/\nd/\ne\nf\ni/\nn/\n");
        probe.tree(9, 6, 1);
    }

    private static void mkdirNotVacant() {
        Probe.sentence("status 1 if the path is not vacant");
        for (String path : new String[] {"d", "f", "e", "d/g", "f/x", "n/x", "/", "''", ".", "..", "n/..", "toolong8", "A", "-"}) {
            Probe probe = withFiles();
            probe.runs("mkdir " + path, 1, "", 1);
            probe.tree(4, 6, 0);
        }
    }

    private static void cd() {
        Probe.sentence("cd [path]: HERE is that directory, without a path the root");
        Probe probe = withFiles();
        probe.does("mkdir d/e;cd d");
        Probe.due("depth() after cd d", probe.depth(), 1);
        probe.does("cd e");
        Probe.due("depth() after cd e", probe.depth(), 2);
        probe.runs("cd ..;ls", 0, "e/\ng\n");
        probe.does("cd ''");
        Probe.due("depth() after cd ''", probe.depth(), 1);
        probe.does("cd");
        Probe.due("depth() after cd", probe.depth(), 0);
        probe.does("cd;cd ..;cd /;cd .");
        Probe.due("depth() at the root", probe.depth(), 0);
    }

    private static void cdNoDirectory() {
        Probe.sentence("status 1 if it does not name a directory");
        for (String path : new String[] {"nosuch", "g", "../f", "/e", "g/..", "g/.", "/d/nosuch", "-", "toolong8", "A", "x/.."}) {
            Probe probe = withFiles();
            probe.does("cd d");
            probe.runs("cd " + path, 1, "", 1);
            Probe.due("depth() after cd " + path, probe.depth(), 1);
            probe.runs("ls", 0, "g\n");
        }
    }
}
