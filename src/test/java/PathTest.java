/** Promise 6, TREE: names, and what paths name. */
public final class PathTest {
    public static void main(String[] args) {
        namesAreShort();
        namesAreOfTheirCharacters();
        dotsAloneAreNoNames();
        namesDifferInOneDirectory();
        pathsAreCut();
        pathsStart();
        rootLiesInItself();
        piecesLeadOnFromDirectories();
        pathsWithoutPieces();
        pathsThatNameNothing();
        vacantPaths();
        pathsThatAreNotVacant();
        Probe.finish("PathTest");
    }

    private static Probe withTree() {
        Probe probe = Probe.roomy();
        probe.does("mkdir a;mkdir a/b;echo one>f;echo two>a/f;echo three>a/b/f");
        return probe;
    }

    /** A node of that name can be made, as a file and as a directory, and found. */
    private static void isName(String name) {
        Probe probe = Probe.roomy();
        probe.does("mkdir " + name);
        probe.runs("ls", 0, name + "/\n");
        probe.runs("mkdir " + name, 1, "");
        probe.does("cd " + name + ";echo x>" + name + ";echo y>>" + name);
        probe.runs("ls;cat " + name, 0, name + "\nx\ny\n");
        probe.tree(2, 4, 1);
    }

    private static void isNoName(String name) {
        Probe probe = withTree();
        probe.runs("mkdir " + name, 1, "", 1);
        probe.runs("echo x>" + name, 1, "", 0);
        probe.runs("echo x>>a/" + name, 1, "", 0);
        probe.runs("mkdir /a/b/" + name, 1, "", 1);
        probe.tree(5, 14, 0);
    }

    private static void namesAreShort() {
        Probe.sentence("A NAME is 1 to 7 characters");
        isName("a");
        isName("ab");
        isName("abcdef");
        isName("abcdefg");
        isName("1234567");
        isName(".......");
        isNoName("abcdefgh");
        isNoName("12345678");
        isNoName("........");
        isNoName("abcdefghabcdefgh");
        isNoName("a".repeat(40));
        Probe probe = Probe.roomy();
        probe.does("mkdir bcdefgh;mkdir abcdefg");
        probe.runs("ls abcdefgh;cd abcdefgh", 1, "");
    }

    private static void namesAreOfTheirCharacters() {
        Probe.sentence("out of a .. z, 0 .. 9, _ and .");
        for (char letter = 33; letter < 127; letter++) {
            boolean fine = letter >= 'a' && letter <= 'z' || letter >= '0' && letter <= '9' || letter == '_';
            if (letter != '\'' && letter != '.' && letter != '/') {
                String name = fine ? String.valueOf(letter) : "'" + letter + "'";
                if (fine) {
                    isName(name);
                    isName("x" + name + "y");
                } else {
                    isNoName(name);
                    isNoName("x" + name);
                    isNoName(name + "x");
                }
            }
        }
        isName("_0.z_9.");
        isNoName("' '");
        isNoName("'x y'");
        isNoName("$");
    }

    private static void dotsAloneAreNoNames() {
        Probe.sentence("(but not . alone, and not .. alone)");
        isName("...");
        isName("..a");
        isName(".a");
        isName("a.");
        isName("a..");
        isName("._");
        isNoName(".");
        isNoName("..");
        isNoName("./.");
        isNoName("./..");
    }

    private static void namesDifferInOneDirectory() {
        Probe.sentence("lies in one directory, in which no other node has that name");
        Probe probe = Probe.roomy();
        probe.does("mkdir d;echo 1>f;mkdir d/d;echo 2>d/f;mkdir d/d/d");
        probe.runs("mkdir f", 1, "");
        probe.runs("mkdir d", 1, "");
        probe.runs("echo x>d", 1, "", 0);
        probe.runs("mkdir d/f||mkdir d/d||mkdir d/d/d", 1, "", 3);
        probe.does("echo 3>f");
        probe.tree(5, 4, 0);
        probe.runs("cat f d/f;ls d", 0, "3\n2\nd/\nf\n");
    }

    private static void pathsAreCut() {
        Probe.sentence("It is cut at every /, and empty pieces and pieces . are left out.");
        Probe probe = withTree();
        probe.runs("cat f a/f a/b/f", 0, "one\ntwo\nthree\n");
        probe.runs("cat //f //a///f ./a/./b/.//f", 0, "one\ntwo\nthree\n");
        probe.runs("cat f/ f/. f//./ ./f", 0, "one\none\none\none\n");
        probe.runs("ls a/b/;ls a/b/.;ls a//b///./", 0, "f\nf\nf\n");
        probe.runs("ls 'a'/'b';ls 'a/b'", 0, "f\nf\n");
        probe.does("mkdir c/;mkdir ./c/./d/.;echo x>c//e/");
        probe.runs("ls c", 0, "d/\ne\n");
    }

    private static void pathsStart() {
        Probe.sentence("It starts at the root if its first character is /, otherwise (also the empty word) HERE.");
        Probe probe = withTree();
        probe.does("cd a/b");
        probe.runs("cat f /f ./f //f '/f'", 0, "three\none\nthree\none\none\n");
        probe.runs("ls '';ls /;cat ''f", 0, "f\na/\nf\nthree\n");
        probe.runs("ls /;ls '';ls /a;ls ''", 0, "a/\nf\nf\nb/\nf\nf\n");
        probe.does("cd ''");
        Probe.due("depth() after cd ''", probe.depth(), 2);
        probe.does("mkdir x;mkdir /y");
        probe.runs("ls;ls /", 0, "f\nx/\na/\nf\ny/\n");
        probe.does("cd /");
        probe.runs("ls ''", 0, "a/\nf\ny/\n");
    }

    private static void rootLiesInItself() {
        Probe.sentence(".. from a directory to the directory in which it lies (from the root to the root)");
        Probe probe = withTree();
        probe.runs("cat ../f /../f ../../a/../f a/b/../f", 0, "one\none\none\ntwo\n");
        probe.runs("ls ..;ls /..;ls ../..;ls a/..", 0, "a/\nf\n".repeat(4));
        probe.does("cd ..");
        Probe.due("depth() above the root", probe.depth(), 0);
        probe.does("cd a/b");
        probe.runs("cat ../f ../../f ../../../../f", 0, "two\none\none\n");
        probe.does("mkdir ../../../x;echo y>/../../y");
        probe.runs("ls /", 0, "a/\nf\nx/\ny\n");
        probe.does("cd ..");
        Probe.due("depth() after ..", probe.depth(), 1);
        probe.does("cd ../../..");
        Probe.due("depth() after ../../..", probe.depth(), 0);
        probe.runs("mkdir ..", 1, "");
        probe.runs("echo x>..", 1, "", 0);
    }

    private static void piecesLeadOnFromDirectories() {
        Probe.sentence("another one from a directory to the node in it that has this name");
        for (String path : new String[] {"f/f", "f/..", "f/../f", "f/a", "a/f/..", "a/f/../b", "/f/b/f", "a/b/f/x"}) {
            Probe probe = withTree();
            probe.runs("ls " + path, 1, "");
            probe.runs("cat " + path, 1, "");
            probe.runs("cd " + path, 1, "");
            probe.runs("cat<" + path, 1, "", 0);
        }
        Probe probe = withTree();
        probe.runs("ls b", 1, "");
        probe.runs("ls /b", 1, "");
        probe.runs("ls a/a", 1, "");
        probe.runs("ls a/b/b", 1, "");
        probe.tree(5, 14, 0);
    }

    private static void pathsWithoutPieces() {
        Probe.sentence("names the node where it ends (without pieces: where it starts)");
        Probe probe = withTree();
        probe.does("cd a");
        for (String path : new String[] {"''", ".", "./", "./.", "././/."}) {
            probe.runs("ls " + path, 0, "b/\nf\n");
            probe.does("cd " + path);
            Probe.due("depth() after cd " + path, probe.depth(), 1);
            probe.runs("mkdir " + path, 1, "");
            probe.runs("cat " + path, 1, "");
            probe.runs("echo x>" + path, 1, "", 0);
        }
        for (String path : new String[] {"/", "//", "/.", "/./", "//.//"}) {
            probe.runs("ls " + path, 0, "a/\nf\n");
            probe.runs("mkdir " + path, 1, "");
            probe.runs("cat<" + path, 1, "", 0);
            probe.runs("(cd " + path + ";cat f)", 0, "one\n");
        }
        probe.tree(5, 14, 1);
    }

    private static void pathsThatNameNothing() {
        Probe.sentence("otherwise it names nothing");
        String[] paths = {
            "g", "a/g", "g/f", "g/..", "g/../f", "a/g/../f", "...", "F", "A/f", "f.", "af", "fa", "/g", "a/../g", "-",
            "'f '", "' f'", "abcdefgh", "abcdefgh/..", "aaaaaaaf", "'a b'/../f", "$?", "*", "?", "a/b/c/d/e",
        };
        for (String path : paths) {
            Probe probe = withTree();
            probe.runs("ls " + path, 1, "");
            probe.runs("cat " + path, 1, "");
            probe.runs("wc " + path, 1, "");
            probe.runs("grep o " + path, 1, "");
            probe.runs("cat<" + path, 1, "", 0);
            probe.runs("cd " + path, 1, "");
            probe.tree(5, 14, 0);
        }
    }

    private static void vacantPaths() {
        Probe.sentence("its last piece is a NAME, and the pieces before that one lead to a directory: there a node of that name can be made");
        Probe probe = Probe.roomy();
        probe.does("mkdir a/");
        probe.does("mkdir a/b/.");
        probe.does("mkdir ./a//../c");
        probe.does("echo x>/a/b/./f/");
        probe.does("echo y>>../g//");
        probe.tree(5, 4, 0);
        probe.runs("ls;ls a;ls a/b;ls c", 0, "a/\nc/\ng\nb/\nf\n");
        probe.does("cd a/b;mkdir ../../z;mkdir /y;echo x>../h");
        probe.runs("ls /;ls ..", 0, "a/\nc/\ng\ny/\nz/\nb/\nh\n");
        probe.does("cd;mkdir x$?;nosuch||mkdir x$?");
        probe.runs("ls", 0, "a/\nc/\ng\nx0/\nx127/\ny/\nz/\n");
        probe.runs("ls 'x'0;ls x$'?';ls 'x$?'", 1, "");
    }

    private static void pathsThatAreNotVacant() {
        Probe.sentence("A path is VACANT if it names nothing, its last piece is a NAME, and the pieces before that one lead to a directory");
        String[] paths = {
            "n/m", "n/m/o", "f/n", "a/f/n", "a/n/m", "n/..", "a/n/..", "n/../m", "f/..", "n/.././m", "a", "a/b", "f/../n",
            "a/", "''", "/", ".", "..", "a/b/..", "toolong8", "a/toolong8", "toolong8/n", "A", "A/n", "a/-",
        };
        for (String path : paths) {
            Probe probe = withTree();
            probe.runs("mkdir " + path, 1, "");
            probe.runs("echo x>" + path, 1, "", 0);
            probe.runs("echo x>>" + path, 1, "", 0);
            probe.tree(5, 14, 0);
        }
        Probe probe = withTree();
        probe.runs("mkdir f;mkdir f/;mkdir a/f", 1, "");
        probe.tree(5, 14, 0);
    }
}
