/** Promise 6: names and paths. */
public final class PathTest {
    public static void main(String[] args) {
        pathsAreFollowed();
        pathsThatNameNothing();
        names();
        vacantPaths();
        Probe.finish("PathTest");
    }

    private static Probe withTree() {
        Probe probe = Probe.roomy();
        probe.does("mkdir a;mkdir a/b;echo one>f;echo two>a/f;echo three>a/b/f");
        return probe;
    }

    private static void pathsAreFollowed() {
        Probe probe = withTree();
        probe.runs("cat f a/f a/b/f", 0, "one\ntwo\nthree\n");
        probe.runs("cat /f //a///f ./a/./b/.//f", 0, "one\ntwo\nthree\n");
        probe.runs("cat f/ f/. f//./", 0, "one\none\none\n");
        probe.runs("cat ../f ../../a/../f a/b/../f /../f", 0, "one\none\ntwo\none\n");
        probe.does("cd a/b");
        probe.tree(5, 14, 2);
        probe.runs("cat f ../f ../../f /f ../../../../f", 0, "three\ntwo\none\none\none\n");
        probe.runs("ls '';ls .;ls ./;ls", 0, "f\nf\nf\nf\n");
        probe.runs("ls /;ls //;ls /.;ls /..;ls ../..", 0, "a/\nf\n".repeat(5));
        probe.does("cd ''");
        probe.tree(5, 14, 2);
        probe.does("cd .");
        probe.tree(5, 14, 2);
        probe.does("cd ..");
        probe.tree(5, 14, 1);
        probe.does("cd ../../..");
        probe.tree(5, 14, 0);
        probe.does("cd a/b/../b");
        probe.tree(5, 14, 2);
        probe.does("cd /");
        probe.tree(5, 14, 0);
    }

    private static void pathsThatNameNothing() {
        Probe probe = withTree();
        String[] paths = {
            "g", "a/g", "g/f", "f/f", "f/..", "f/../f", "a/f/.", "g/..", "g/../f", "...", "a/b/f/x",
            "F", "f.", "af", "fa", "/g", "a/../g", "-", "'f '", "abcdefgh", "abcdefghf",
        };
        for (String path : paths) {
            boolean named = path.equals("a/f/.");
            probe.runs("ls " + path, named ? 0 : 1, named ? "f\n" : "");
            probe.runs("cat " + path, named ? 0 : 1, named ? "two\n" : "");
            probe.runs("cat<" + path, named ? 0 : 1, named ? "two\n" : "", named ? 1 : 0);
            probe.runs("cd " + path, 1, "");
        }
        for (String directory : new String[] {"a", "/", "''", ".", "..", "a/b", "a/"}) {
            probe.runs("cat " + directory, 1, "");
            probe.runs("wc " + directory, 1, "");
            probe.runs("grep x " + directory, 1, "");
            probe.runs("cat<" + directory, 1, "", 0);
            probe.runs("echo x>" + directory, 1, "", 0);
            probe.runs("echo x>>" + directory, 1, "", 0);
            probe.runs("mkdir " + directory, 1, "");
        }
        probe.tree(5, 14, 0);
    }

    private static void names() {
        String[] right = {
            "a", "z", "0", "9", "_", "...", "..a", ".a", "a.", "abcdefg", "_0.z_9.", "1234567",
        };
        Probe probe = Probe.roomy();
        for (String name : right) {
            probe.does("mkdir " + name);
            probe.runs("mkdir " + name, 1, "");
            probe.runs("(cd " + name + ")", 0, "");
        }
        probe.tree(12, 0, 0);
        String[] wrong = {
            "abcdefgh", "12345678", "A", "aB", "Z", "a-b", "-", "a*", "'a b'", "' '", "$", "a$", "~",
            "'a''b!'", "@", "'`'", "'{'", "',/-'", "a:", "abcdefghabcdefgh", ".", "..", "''", "/",
        };
        Probe other = Probe.roomy();
        for (String name : wrong) {
            other.runs("mkdir " + name, 1, "");
            other.runs("echo x>" + name, 1, "", 0);
            other.runs("echo x>>" + name, 1, "", 0);
        }
        other.tree(0, 0, 0);
    }

    private static void vacantPaths() {
        Probe probe = Probe.roomy();
        probe.does("mkdir a/");
        probe.does("mkdir a/b/.");
        probe.does("mkdir ./a//../c");
        probe.does("echo x>/a/b/./f/");
        probe.does("echo y>>../g//");
        probe.tree(5, 4, 0);
        probe.runs("ls;ls a;ls a/b;ls c", 0, "a/\nc/\ng\nb/\nf\n");
        String[] wrong = {"n/m", "g/n", "a/n/..", "n/..", "n/.", "a/g/n", "n/m/.."};
        for (String path : wrong) {
            boolean vacant = path.equals("n/.");
            probe.runs("mkdir " + path, vacant ? 0 : 1, "");
            probe.runs("echo>" + path, 1, "");
        }
        probe.tree(6, 4, 0);
        probe.does("cd a/b;mkdir ../../z;mkdir /y");
        probe.runs("ls /", 0, "a/\nc/\ng\nn/\ny/\nz/\n");
        probe.does("cd;mkdir x$?;nosuch||mkdir x$?");
        probe.runs("ls", 0, "a/\nc/\ng\nn/\nx0/\nx127/\ny/\nz/\n");
        probe.runs("ls 'x'0;ls x$'?';ls 'x$?'", 1, "");
    }
}
