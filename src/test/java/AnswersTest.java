/** Promises 7 to 13: what can be asked after a line. */
public final class AnswersTest {
    public static void main(String[] args) {
        statusOfEachKind();
        statusLasts();
        lengthBeforeTheFirstLine();
        lengthOfTheLastLine();
        outGivesPlaces();
        outWithoutPlaces();
        ranBeforeTheFirstLine();
        ranOutsideOfTheGrammar();
        ranCountsWhatWasRun();
        ranWithoutRedirections();
        ranCountsUnknownNames();
        nodesWithoutTheRoot();
        charsOfAllContents();
        depth();
        askingChangesNothing();
        Probe.finish("AnswersTest");
    }

    private static void statusOfEachKind() {
        Probe.sentence("`int status()`: STATUS.");
        Probe probe = new Probe(1, 10, 8);
        Probe.due("status() at first", probe.status(), 0);
        String[] lines = {"echo", "cat x", "wc x y", "nosuch", "echo 12345678", "!nosuch", "!echo"};
        int[] due = {0, 1, 2, 127, 100, 0, 1};
        for (int i = 0; i < lines.length; i++) {
            probe.typeAll(lines[i]);
            Probe.due("enter() of " + lines[i], probe.enter(), due[i]);
            Probe.due("status() after " + lines[i], probe.status(), due[i]);
        }
    }

    private static void statusLasts() {
        Probe.sentence("it lasts from line to line");
        for (String line : new String[] {"cat x", "wc x y", "nosuch", "echo 12345678", "!echo", "echo"}) {
            Probe probe = new Probe(1, 10, 8);
            probe.typeAll(line);
            int due = probe.enter();
            for (String nothing : new String[] {"", "  ", "(a", "a&b", "'", ";"}) {
                probe.typeAll(nothing);
                probe.check();
                Probe.due("status() while typing " + nothing, probe.status(), due);
                boolean outside = probe.check() == -1;
                Probe.due("enter() of " + nothing, probe.enter(), outside ? -1 : due);
                Probe.due("status() after " + nothing, probe.status(), due);
            }
            probe.typeAll("echo");
            probe.wipe();
            Probe.due("status() after wipe()", probe.status(), due);
            probe.runs("echo $?", 0, due + "\n");
        }
    }

    private static void lengthBeforeTheFirstLine() {
        Probe.sentence("the output of the line that was entered last (empty before the first one)");
        Probe probe = Probe.roomy();
        Probe.due("length() at first", probe.length(), 0);
        probe.typeAll("echo abc");
        probe.check();
        Probe.due("length() while typing", probe.length(), 0);
        Probe.due("out(0) while typing", probe.out(0), 0L);
        probe.wipe();
        Probe.due("length() after wipe()", probe.length(), 0);
    }

    private static void lengthOfTheLastLine() {
        Probe.sentence("How many characters and NEWLINEs OUTPUT has");
        Probe probe = Probe.roomy();
        String[] lines = {"echo abcdefgh", "echo", "echo -n a", "echo -n", "echo a;echo bc", "cat x", "", "(", "echo a;echo b>/"};
        int[] due = {9, 1, 1, 0, 5, 0, 0, 0, 2};
        for (int i = 0; i < lines.length; i++) {
            probe.typeAll("echo 1234567;echo 89");
            probe.enter();
            Probe.due("length()", probe.length(), 11);
            probe.typeAll(lines[i]);
            Probe.due("length() while typing", probe.length(), 11);
            probe.enter();
            Probe.due("length() of " + lines[i], probe.length(), due[i]);
        }
        probe.does("echo " + "x".repeat(47) + ">f");
        probe.runs("cat f f", 0, ("x".repeat(47) + "\n").repeat(2));
        Probe.due("length() of all that fits", probe.length(), 96);
    }

    private static void outGivesPlaces() {
        Probe.sentence("Places 8 * k .. 8 * k + 7 of OUTPUT as the bytes of a long, the first one highest");
        Probe probe = Probe.roomy();
        probe.does("echo 12345678901234567890123456789012345678901234567>f");
        probe.runs("cat f f", 0, "12345678901234567890123456789012345678901234567\n".repeat(2));
        Probe.due("out(0)", probe.out(0), Probe.pack("12345678"));
        Probe.due("out(1)", probe.out(1), Probe.pack("90123456"));
        Probe.due("out(5)", probe.out(5), Probe.pack("1234567\n"));
        Probe.due("out(6)", probe.out(6), Probe.pack("12345678"));
        Probe.due("out(11)", probe.out(11), Probe.pack("1234567\n"));
        probe.runs("echo '~~~~ ~~'", 0, "~~~~ ~~\n");
        Probe.due("out(0)", probe.out(0), 0x7e7e7e7e207e7e0aL);
    }

    private static void outWithoutPlaces() {
        Probe.sentence("a byte is 0 where there is no such place (so for any other k)");
        int[] others = {
            -1, -2, -8, -9, 13, 100, 1000, 1 << 28, 1 << 29, 1 << 30, (1 << 29) + 1, -(1 << 29), -(1 << 28), 1 - (1 << 29),
            Integer.MAX_VALUE, Integer.MIN_VALUE, Integer.MIN_VALUE + 1,
        };
        for (int size = 0; size <= 58; size++) {
            Probe probe = Probe.roomy();
            probe.runs("echo " + "a".repeat(size), 0, "a".repeat(size) + "\n");
            for (int k = 0; k <= 12; k++) {
                long due = 0;
                for (int place = 8 * k; place < 8 * k + 8; place++) {
                    due = due << 8 | (place < size ? 'a' : place == size ? '\n' : 0);
                }
                Probe.due("out(" + k + ") with " + size + " letters", probe.out(k), due);
            }
            for (int k : others) {
                Probe.due("out(" + k + ") with " + size + " letters", probe.out(k), 0L);
            }
        }
        Probe probe = Probe.roomy();
        probe.does("echo " + "x".repeat(47) + ">f");
        probe.runs("cat f f", 0, ("x".repeat(47) + "\n").repeat(2));
        probe.runs("echo -n b", 0, "b");
        Probe.due("out(0) of a shorter line", probe.out(0), (long) 'b' << 56);
        Probe.due("out(1) of a shorter line", probe.out(1), 0L);
        Probe.due("out(11) of a shorter line", probe.out(11), 0L);
        Probe.due("out(12) of a shorter line", probe.out(12), 0L);
    }

    private static void ranBeforeTheFirstLine() {
        Probe.sentence("0 before the first one");
        Probe probe = new Probe(1, 10, 8);
        Probe.due("ran() at first", probe.ran(), 0);
        probe.typeAll("echo a;echo b");
        probe.check();
        Probe.due("ran() while typing", probe.ran(), 0);
    }

    private static void ranOutsideOfTheGrammar() {
        Probe.sentence("and if it was outside of the grammar");
        Probe probe = Probe.roomy();
        for (String line : new String[] {";", "echo a;(", "echo a;echo '", "a&b", "echo;;", "(((((a)))))"}) {
            probe.runs("echo;echo|cat", 0, "\n\n", 3);
            probe.runs(line, -1, "", 0);
        }
    }

    private static void ranCountsWhatWasRun() {
        Probe.sentence("How many simple commands were run in the line that was entered last");
        Probe probe = new Probe(2, 10, 8);
        probe.runs("echo;echo|cat", 0, "\n\n", 3);
        probe.typeAll("echo");
        Probe.due("ran() while typing", probe.ran(), 3);
        probe.check();
        Probe.due("ran() after check()", probe.ran(), 3);
        probe.wipe();
        Probe.due("ran() after wipe()", probe.ran(), 3);
        probe.runs("", 0, "", 0);
        probe.runs("echo;echo|cat", 0, "\n\n", 3);
        probe.runs("   ", 0, "", 0);
        probe.runs("((((echo))))", 0, "\n", 1);
        probe.runs("echo a||cat x||wc;cat x&&echo b&&echo c", 1, "a\n", 2);
        probe.runs("wc a b;cat x;mkdir;mkdir /;grep a", 1, "", 5);
        probe.runs("mkdir d;mkdir e;mkdir f;echo", 100, "", 3);
        probe.runs("echo 12345678;echo", 100, "", 1);
        probe.runs("echo;cd d|cat|(cd e;echo 12345678)|echo", 100, "\n", 5);
    }

    private static void ranWithoutRedirections() {
        Probe.sentence("their redirections having been made, so not one whose redirection ends the line by SPACE");
        Probe probe = new Probe(2, 10, 8);
        probe.runs("echo>f;echo<f>f", 0, "", 2);
        probe.runs("echo<nosuch;echo;cat>/;echo>>x/y", 1, "\n", 1);
        probe.runs("(echo;echo)<nosuch", 1, "", 0);
        probe.runs("(echo;echo)>g", 0, "", 2);
        probe.runs("echo>h", 100, "", 0);
        probe.runs("echo>>h", 100, "", 0);
        probe.runs("echo;echo>h;echo", 100, "\n", 1);
        probe.runs("echo|cat>f|cat>h|cat", 100, "", 2);
        probe.runs("(echo;cat)>h", 100, "", 0);
        probe.runs("echo;((echo;echo>h);echo)", 100, "\n", 2);
        probe.runs("nosuch>h", 100, "", 0);
        probe.runs("echo 1234567>f;echo 1234567>g;echo", 100, "", 2);
    }

    private static void ranCountsUnknownNames() {
        Probe.sentence("unknown names too");
        Probe probe = Probe.roomy();
        probe.runs("nosuch", 127, "", 1);
        probe.runs("a;b|c;(d);'';$?", 127, "", 6);
        probe.runs("a;".repeat(32), 127, "", 32);
        probe.runs("nosuch<nosuch;nosuch>f", 127, "", 1);
    }

    private static void nodesWithoutTheRoot() {
        Probe.sentence("How many nodes there are besides the root.");
        Probe probe = new Probe(4, 160, 96);
        Probe.due("nodes() at first", probe.nodes(), 0);
        probe.does("mkdir a");
        Probe.due("nodes()", probe.nodes(), 1);
        probe.does("mkdir a/b;echo 12>a/b/c");
        Probe.due("nodes()", probe.nodes(), 3);
        probe.does("echo 12>a/b/c;echo 3>>a/b/c;cd a/b");
        Probe.due("nodes()", probe.nodes(), 3);
        probe.runs("mkdir ../b||mkdir /A||echo>/a", 1, "");
        Probe.due("nodes()", probe.nodes(), 3);
        probe.runs("nosuch>e", 127, "");
        Probe.due("nodes()", probe.nodes(), 4);
        probe.runs("mkdir f", 100, "");
        probe.runs("echo>f", 100, "");
        Probe.due("nodes()", probe.nodes(), 4);
    }

    private static void charsOfAllContents() {
        Probe.sentence("How long all contents are together.");
        Probe probe = new Probe(12, 10, 96);
        Probe.due("chars() at first", probe.chars(), 0);
        probe.does("mkdir abc;cat>abc/def");
        Probe.due("chars() of an empty file", probe.chars(), 0);
        probe.does("echo 12>abc/def");
        Probe.due("chars()", probe.chars(), 3);
        probe.does("echo 345>>abc/def;echo 6>d");
        Probe.due("chars() of two files", probe.chars(), 9);
        probe.does("echo -n x>>d");
        Probe.due("chars() when full", probe.chars(), 10);
        probe.runs("echo>>d", 100, "");
        Probe.due("chars() when full", probe.chars(), 10);
        probe.does("echo -n>d");
        Probe.due("chars() after a file was emptied", probe.chars(), 7);
        probe.runs("echo 1234>d", 100, "");
        Probe.due("chars() after an output that did not fit", probe.chars(), 7);
        probe.runs("cat nosuch>abc/def", 1, "");
        Probe.due("chars() of nothing left", probe.chars(), 0);
    }

    private static void depth() {
        Probe.sentence("In how many directories HERE lies, one in the other: 0 for the root.");
        Probe probe = Probe.roomy();
        for (int deep = 0; deep < 12; deep++) {
            probe.tree(deep, 0, deep);
            probe.does("mkdir d;cd d");
        }
        probe.tree(12, 0, 12);
        probe.does("cd .");
        Probe.due("depth()", probe.depth(), 12);
        probe.does("cd ../..");
        Probe.due("depth()", probe.depth(), 10);
        probe.does("cd /d/d");
        Probe.due("depth()", probe.depth(), 2);
        probe.does("cd ../..");
        Probe.due("depth() of the root", probe.depth(), 0);
        probe.does("cd ..");
        Probe.due("depth() of the root's ..", probe.depth(), 0);
        probe.does("cd d;cd");
        Probe.due("depth() after cd alone", probe.depth(), 0);
    }

    private static void askingChangesNothing() {
        Probe.sentence("Nothing is promised beyond the answers and state changes described above");
        Probe probe = new Probe(5, 50, 20);
        probe.runs("mkdir d;cd d;echo x>f;cat f;nosuch", 127, "x\n", 5);
        probe.typeAll("echo y");
        for (int time = 0; time < 3; time++) {
            Probe.due("typed()", probe.typed(), 6);
            Probe.due("check()", probe.check(), 2);
            Probe.due("status()", probe.status(), 127);
            Probe.due("length()", probe.length(), 2);
            Probe.due("out(0)", probe.out(0), Probe.pack("x\n") << 48);
            Probe.due("out(1)", probe.out(1), 0L);
            Probe.due("ran()", probe.ran(), 5);
            probe.tree(2, 2, 1);
        }
        Probe.due("enter()", probe.enter(), 0);
        Probe.due("output", probe.output(), "y\n");
    }
}
