/** Promise 6, SPACE: each capacity just held and just passed, and how the line ends then. */
public final class SpaceTest {
    public static void main(String[] args) {
        outputsOfTools();
        outputsWithATarget();
        outputsOfTheLinesList();
        outputsOfGroupsLists();
        directories();
        files();
        contents();
        wholeOrNotAtAll();
        nothingElseIsRun();
        nothingElseIsAdded();
        whatWasDoneStays();
        hereGoesBackForGroups();
        hereGoesBackForPipelines();
        hereStaysOtherwise();
        statusIsSpace();
        outputOfTheLinesOwnList();
        statusesAheadOfSpace();
        Probe.finish("SpaceTest");
    }

    private static void outputsOfTools() {
        Probe.sentence("When the output of a tool .. would be longer than PIPE");
        Probe probe = new Probe(12, 160, 8);
        probe.runs("echo 1234567", 0, "1234567\n");
        probe.runs("echo 12345678", 100, "", 1);
        probe.runs("echo -n 12345678", 0, "12345678");
        probe.runs("echo -n 123456789", 100, "", 1);
        probe.runs("echo 123 567;echo -n", 0, "123 567\n");
        probe.runs("echo 123 5678", 100, "", 1);
        probe.runs("echo 12345678|wc", 100, "", 1);
        probe.does("echo 1234567>f;echo 123>g;echo 1234>h");
        probe.runs("cat f", 0, "1234567\n");
        probe.runs("cat g g", 0, "123\n123\n");
        probe.runs("cat g h", 100, "", 1);
        probe.runs("cat<f", 0, "1234567\n");
        probe.does("echo -n x>>f");
        probe.runs("cat f", 100, "", 1);
        probe.runs("cat<f", 100, "", 1);
        probe.runs("grep 3 h", 0, "1234\n");
        probe.runs("grep x f", 0, "x\n");
        probe.runs("grep 1 f", 0, "1234567\n");
        probe.runs("grep . f", 100, "", 1);
        probe.runs("grep -v y<f", 100, "", 1);
        probe.runs("grep y f", 1, "", 1);
        probe.runs("ls", 0, "f\ng\nh\n");
        probe.does("echo -n 12345678>i");
        probe.runs("ls", 0, "f\ng\nh\ni\n");
        probe.runs("grep 1 i", 100, "", 1);
        probe.does("mkdir d;mkdir d/dd");
        probe.runs("ls", 100, "", 1);
        probe.runs("ls d", 0, "dd/\n");
        probe.does("mkdir d/eee");
        probe.runs("ls d", 100, "", 1);
        probe.does("mkdir d/dd/abcdef");
        probe.runs("ls d/dd", 0, "abcdef/\n");
        probe.does("mkdir d/eee/abcdefg");
        probe.runs("ls d/eee", 100, "", 1);
        probe.does("cat>d/eee/abcdefg/abcdefg");
        probe.runs("ls d/eee/abcdefg/abcdefg", 0, "abcdefg\n");
    }

    private static void outputsWithATarget() {
        Probe.sentence("When the output of a tool .. would be longer than PIPE; .. then nothing of that is done");
        Probe probe = new Probe(12, 160, 8);
        probe.does("echo 1234567>f");
        probe.tree(1, 8, 0);
        probe.runs("echo 12345678>>f", 100, "", 1);
        probe.tree(1, 8, 0);
        probe.runs("echo 12345678>f", 100, "", 1);
        probe.tree(1, 0, 0);
        probe.runs("echo 12345678>g", 100, "", 1);
        probe.tree(2, 0, 0);
        probe.does("echo 1234567>f;echo 1234567>>f");
        probe.runs("wc f", 0, "2 2 16\n");
        probe.runs("wc<f", 0, "2 2 16\n");
        probe.runs("cat f>g", 100, "", 1);
        probe.tree(2, 16, 0);
        Probe wide = new Probe(12, 160, 96);
        wide.does("echo 123456789012345678901234567890123456789012345678901>f");
        wide.does("echo 123456789012345678901234567890123456789012345678901>>f");
        wide.does("echo 123456789012345678901234567890123456789012345678901>>f");
        wide.runs("wc f", 0, "3 3 156\n");
        wide.runs("cat f>g", 100, "", 1);
        wide.runs("grep 0$ f", 1, "", 1);
        wide.runs("grep 01$ f|wc", 100, "", 1);
        wide.tree(2, 156, 0);
    }

    private static void outputsOfTheLinesList() {
        Probe.sentence("or what a list (the line's or a group's) has put out, would be longer than PIPE");
        Probe probe = new Probe(12, 160, 10);
        probe.runs("echo 1234;echo 1234", 0, "1234\n1234\n");
        probe.runs("echo 1234;echo 12345", 100, "1234\n", 2);
        probe.runs("echo 1234;echo 1234;echo", 100, "1234\n1234\n", 3);
        probe.runs("echo 1234;echo 1234;echo -n", 0, "1234\n1234\n", 3);
        probe.runs("echo 1234&&echo 12345||echo", 100, "1234\n", 2);
        probe.runs("echo 1234;echo 12345|cat", 100, "1234\n", 3);
        probe.runs("echo 1234;(echo 12345)", 100, "1234\n", 2);
        probe.runs("echo 1234;!echo 12345", 100, "1234\n", 2);
        probe.runs("echo 123456789;nosuch;cat;echo x>f", 0, "123456789\n", 4);
        probe.runs("echo 1234;echo 12345|wc>f;cat f", 100, "1234\n", 4);
    }

    private static void outputsOfGroupsLists() {
        Probe.sentence("what a list (the line's or a group's) has put out");
        Probe probe = new Probe(12, 160, 10);
        probe.runs("(echo 1234;echo 1234)|wc", 0, "2 2 10\n");
        probe.runs("(echo 1234;echo 12345)|wc", 100, "", 2);
        probe.does("(echo 1234;echo 1234)>f");
        probe.tree(1, 10, 0);
        probe.runs("(echo 1234;echo 12345)>f", 100, "", 2);
        probe.tree(1, 0, 0);
        probe.does("(echo 1234;echo 123456789>f)>g");
        probe.runs("((echo 1234)>>g;cat g)", 0, "1234\n1234\n");
        probe.runs("(((echo 1234);(echo 12345)))", 100, "", 2);
        probe.runs("((((echo 1234;echo 1234)|wc)))", 0, "2 2 10\n");
        probe.runs("((((echo 1234;echo 12345)|wc)))", 100, "", 2);
        probe.runs("(echo 1;(echo 2;echo 123456789)>h);echo", 100, "", 3);
        probe.runs("wc h", 0, "0 0 0\n");
    }

    private static void directories() {
        Probe.sentence("when a file or directory would be made and there are NODES nodes besides the root already");
        Probe probe = new Probe(3, 160, 96);
        probe.does("mkdir a;mkdir a/b;mkdir c");
        probe.runs("mkdir d", 100, "", 1);
        probe.runs("mkdir a/b/d", 100, "", 1);
        probe.runs("echo x;mkdir d;echo y", 100, "x\n", 2);
        probe.tree(3, 0, 0);
        Probe smallest = new Probe(1, 160, 96);
        smallest.does("mkdir a;cd a");
        smallest.runs("mkdir a", 100, "", 1);
        smallest.tree(1, 0, 1);
    }

    private static void files() {
        Probe.sentence("when a file .. would be made and there are NODES nodes besides the root already");
        Probe probe = new Probe(3, 160, 96);
        probe.does("mkdir a;cat>b;cat>>a/c");
        probe.runs("echo x>d", 100, "", 0);
        probe.runs("cat>a/d", 100, "", 0);
        probe.runs("cat>>d", 100, "", 0);
        probe.runs("echo x;echo y>>a/d;echo z", 100, "x\n", 1);
        probe.runs("(echo x;echo y)>d", 100, "", 0);
        probe.runs("nosuch>d", 100, "", 0);
        probe.tree(3, 0, 0);
        probe.does("echo 1>b;echo 2>>b;echo 3>>a/c");
        probe.tree(3, 6, 0);
        probe.runs("echo x>b>d", 100, "", 0);
        probe.tree(3, 2, 0);
    }

    private static void contents() {
        Probe.sentence("or when all contents together would be longer than CHARS by an output that is added to a target");
        Probe probe = new Probe(12, 10, 96);
        probe.does("echo 1234>f;echo 123>g");
        probe.does("echo>>f");
        probe.tree(2, 10, 0);
        probe.does("echo -n>>f;cat>>f;cat>h");
        probe.runs("cat nosuch>>g", 1, "");
        probe.tree(3, 10, 0);
        probe.runs("echo>>f", 100, "", 1);
        probe.runs("echo -n x>>f", 100, "", 1);
        probe.runs("echo -n x>h", 100, "", 1);
        probe.runs("(echo -n x)>h", 100, "", 1);
        probe.runs("echo -n x>i", 100, "", 1);
        probe.tree(4, 10, 0);
        probe.does("echo 12345>f");
        probe.tree(4, 10, 0);
        probe.runs("echo 123456>f", 100, "", 1);
        probe.tree(4, 4, 0);
        probe.does("cat g>i");
        probe.tree(4, 8, 0);
        probe.runs("cat g>>g", 100, "", 1);
        probe.tree(4, 8, 0);
        probe.runs("echo 12345678901", 0, "12345678901\n");
        Probe none = new Probe(12, 0, 96);
        none.does("cat>f;echo -n>>f");
        none.runs("echo>f", 100, "", 1);
        none.runs("echo>f|cat", 100, "", 1);
        none.tree(1, 0, 0);
        none.runs("echo x", 0, "x\n");
    }

    private static void wholeOrNotAtAll() {
        Probe.sentence("then nothing of that is done (an output is added as a whole or not at all)");
        Probe probe = new Probe(12, 10, 8);
        probe.does("echo 123>f;echo 123>g");
        probe.runs("echo 12>>f", 100, "", 1);
        probe.runs("cat f", 0, "123\n");
        probe.runs("(echo;echo 1)>>g", 100, "", 2);
        probe.runs("cat g", 0, "123\n");
        probe.runs("cat f f>>g", 100, "", 1);
        probe.tree(2, 8, 0);
        probe.runs("cat f;cat g f", 100, "123\n", 2);
        probe.runs("cat f;echo 12345", 100, "123\n", 2);
        probe.runs("cat f;(echo 1;echo 23)", 100, "123\n", 3);
        probe.runs("cat g;cat f", 0, "123\n123\n");
    }

    private static void nothingElseIsRun() {
        Probe.sentence("and the line ends: nothing else is run or added");
        Probe probe = new Probe(2, 10, 8);
        probe.runs("mkdir a;echo x>a/f;mkdir b;echo y", 100, "", 3);
        probe.runs("echo x;mkdir b||echo y", 100, "x\n", 2);
        probe.runs("echo x;mkdir b&&echo y", 100, "x\n", 2);
        probe.runs("echo x;!mkdir b&&echo y", 100, "x\n", 2);
        probe.runs("echo x;mkdir b|echo y", 100, "x\n", 2);
        probe.runs("echo x;echo y|mkdir b|cat;echo z", 100, "x\n", 3);
        probe.runs("echo x;(echo y;mkdir b;echo z)||echo w", 100, "x\n", 3);
        probe.runs("echo x|(cat;mkdir b;cd a)|wc;cd a", 100, "", 3);
        probe.runs("!(((echo x;mkdir b);cd a);cd a);cd a", 100, "", 2);
        probe.runs("echo y>b<nosuch||cd a", 100, "", 0);
        probe.tree(2, 2, 0);
    }

    private static void nothingElseIsAdded() {
        Probe.sentence("nothing else is run or added");
        Probe probe = new Probe(2, 10, 8);
        probe.does("mkdir a;echo x>a/f");
        probe.runs("(echo y;mkdir b)>>a/f;echo w", 100, "", 2);
        probe.runs("cat a/f", 0, "x\n");
        probe.runs("(echo y;(echo z;mkdir b)>>a/f;echo w)>>a/f", 100, "", 3);
        probe.runs("cat a/f", 0, "x\n");
        probe.runs("(echo y>>a/f;mkdir b;echo z)>>a/f", 100, "", 2);
        probe.runs("cat a/f", 0, "x\ny\n");
        probe.runs("(echo y;echo 12345678)>>a/f", 100, "", 2);
        probe.runs("cat a/f", 0, "x\ny\n");
        probe.runs("(echo y;mkdir b)>a/f", 100, "", 2);
        probe.tree(2, 0, 0);
    }

    private static void whatWasDoneStays() {
        Probe.sentence("what was done before stays");
        Probe probe = new Probe(5, 12, 8);
        probe.runs("mkdir a;(echo x>a/f;echo 12345678);mkdir b", 100, "", 3);
        probe.tree(2, 2, 0);
        probe.runs("echo y>>a/f|echo z>g|echo 12345678", 100, "", 3);
        probe.tree(3, 6, 0);
        probe.runs("cat a/f g", 0, "x\ny\nz\n");
        probe.runs("cd a;cat>h>i>j", 100, "", 1);
        probe.tree(5, 6, 1);
        probe.runs("(cat f>f;mkdir k)>>/g", 100, "", 2);
        probe.runs("wc f;ls", 100, "0 0 0\n", 2);
        probe.runs("cat /g", 0, "z\n");
    }

    private static void hereGoesBackForGroups() {
        Probe.sentence("HERE goes back for each group .. that is being run");
        Probe probe = new Probe(3, 10, 8);
        probe.does("mkdir a;mkdir a/b;mkdir a/b/c");
        probe.runs("(cd a;mkdir d)", 100, "", 2);
        Probe.due("depth() after a group", probe.depth(), 0);
        probe.runs("(cd a;(cd b;(cd c;mkdir d)))", 100, "", 4);
        Probe.due("depth() after three", probe.depth(), 0);
        probe.runs("cd a;(cd b;mkdir d)", 100, "", 3);
        Probe.due("depth() after a group in a directory", probe.depth(), 1);
        probe.runs("(cd b;cat>d)", 100, "", 1);
        Probe.due("depth() after a redirection", probe.depth(), 1);
        probe.runs("(cd b;echo 12345678)", 100, "", 2);
        Probe.due("depth() after a tool's output", probe.depth(), 1);
        probe.runs("(cd b;echo 123;echo 1234)", 100, "", 3);
        Probe.due("depth() after a list's output", probe.depth(), 1);
        probe.runs("cd b;(cd c;cd /);(cd c;mkdir d)>>/e", 100, "", 3);
        Probe.due("depth() after a group that is not run", probe.depth(), 2);
    }

    private static void hereGoesBackForPipelines() {
        Probe.sentence("HERE goes back for .. each pipeline of several commands that is being run");
        Probe probe = new Probe(3, 10, 8);
        probe.does("mkdir a;mkdir a/b;mkdir a/b/c");
        probe.runs("cd a|mkdir d", 100, "", 2);
        Probe.due("depth() after the last", probe.depth(), 0);
        probe.runs("cd a;cd b|mkdir d|cat", 100, "", 3);
        Probe.due("depth() after the middle one", probe.depth(), 1);
        probe.runs("(cd b;mkdir d)|cat", 100, "", 2);
        Probe.due("depth() after a group in it", probe.depth(), 1);
        probe.runs("cat|(cd b;cd c;echo 123456789)", 100, "", 4);
        Probe.due("depth() after a group as its last", probe.depth(), 1);
        probe.runs("(cd b;cd c;(cd /;cd a|mkdir d))|cat", 100, "", 5);
        Probe.due("depth() after pipelines in groups", probe.depth(), 1);
        probe.runs("echo 12345|cat;cd b|echo 123", 100, "12345\n", 4);
        Probe.due("depth() after a list's output", probe.depth(), 1);
    }

    private static void hereStaysOtherwise() {
        Probe.sentence("what was done before stays, HERE goes back for each group and each pipeline");
        Probe probe = new Probe(3, 10, 8);
        probe.does("mkdir a;mkdir a/b;mkdir a/b/c");
        probe.runs("cd a;cd b;cd c;mkdir d;cd", 100, "", 4);
        Probe.due("depth() after a tool", probe.depth(), 3);
        probe.runs("cd ..;cat>f", 100, "", 1);
        Probe.due("depth() after a redirection", probe.depth(), 2);
        probe.runs("cd ..;echo 12345678", 100, "", 2);
        Probe.due("depth() after an output", probe.depth(), 1);
        probe.runs("!cd ..;echo 1234;echo 123", 100, "1234\n", 3);
        Probe.due("depth() after a list's output", probe.depth(), 0);
        probe.runs("cd a;(cd b);cd b|cat;mkdir d", 100, "", 5);
        Probe.due("depth() after groups that have ended", probe.depth(), 1);
    }

    private static void statusIsSpace() {
        Probe.sentence("STATUS is SPACE");
        String[] ends = {
            "mkdir e", "cat>e", "cat>>e", "echo 12345678", "echo 123;echo 1234", "(echo 123;echo 1234)|wc", "echo>f",
            "!mkdir e", "(mkdir e)", "!(mkdir e)||echo x", "mkdir e|cat", "nosuch;mkdir e", "(nosuch||mkdir e);echo x",
        };
        for (String line : ends) {
            Probe probe = new Probe(2, 0, 8);
            probe.does("mkdir d;cat>f");
            probe.typeAll(line);
            Probe.due("enter() of " + line, probe.enter(), 100);
            Probe.due("status() after " + line, probe.status(), TreeShell.SPACE);
            probe.runs("", 100, "", 0);
            probe.runs("(", -1, "", 0);
            Probe.due("status() of lines later", probe.status(), 100);
            probe.runs("echo $?", 0, "100\n");
            probe.run(line);
            probe.runs("(echo $?|cat)", 0, "100\n");
            probe.run(line);
            probe.runs("cat<x$?||echo $?", 0, "1\n");
        }
    }

    private static void outputOfTheLinesOwnList() {
        Probe.sentence("the output of the line is what its own list has put out (not what lists within it have)");
        Probe probe = new Probe(12, 160, 10);
        probe.runs("echo a;(echo b;(echo c;echo 12345678))", 100, "a\n", 4);
        probe.runs("echo a;(echo b);(echo c;echo 12345678)", 100, "a\nb\n", 4);
        probe.runs("echo a;(echo b)|cat;(echo c;echo 12345678)|cat", 100, "a\nb\n", 5);
        probe.runs("(echo b;echo 123456789)", 100, "", 2);
        probe.runs("((((echo b;echo 123456789))))", 100, "", 2);
        probe.runs("echo a;echo b|(cat;echo c;echo 12345678)", 100, "a\n", 5);
        probe.runs("echo a;echo b&&echo c|echo 12345678901", 100, "a\nb\n", 4);
        probe.runs("echo a>f;(echo b)>g;(echo c;echo 12345678)", 100, "", 4);
        probe.runs("cat f g", 0, "a\nb\n");
        probe.runs("echo 1234567890", 100, "", 1);
        Probe.due("length()", probe.length(), 0);
        Probe.due("out(0)", probe.out(0), 0L);
    }

    private static void statusesAheadOfSpace() {
        Probe.sentence("with any other status the output is empty. Arguments that are not as shown, fewer or more of them: status 2, before all else.");
        Probe probe = new Probe(2, 160, 8);
        probe.does("echo 1234>f;echo 1234>g");
        probe.runs("cat f g", 100, "");
        probe.runs("cat f g nosuch", 1, "");
        probe.runs("cat f f f nosuch f", 1, "");
        probe.runs("wc f g", 2, "");
        probe.runs("grep 1 f g", 2, "");
        probe.runs("mkdir;mkdir h i", 2, "", 2);
        probe.runs("mkdir f;mkdir H;mkdir h/i;mkdir f/h", 1, "", 4);
        probe.runs("echo y<nosuch>h", 1, "", 0);
        probe.runs("echo y>H;echo y>h/i", 1, "", 0);
    }
}
