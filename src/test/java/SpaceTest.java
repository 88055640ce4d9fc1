/** Promise 6: capacities that are too small end the line. */
public final class SpaceTest {
    public static void main(String[] args) {
        toolOutputs();
        listOutputs();
        groupOutputs();
        nodes();
        contents();
        lineEnds();
        hereGoesBack();
        statusAfterwards();
        statusesAheadOfSpace();
        Probe.finish("SpaceTest");
    }

    private static void toolOutputs() {
        Probe probe = new Probe(12, 160, 8);
        probe.runs("echo 1234567", 0, "1234567\n");
        probe.runs("echo 12345678", 100, "", 1);
        probe.runs("echo -n 12345678", 0, "12345678");
        probe.runs("echo -n 123456789", 100, "", 1);
        probe.runs("echo 12345678>f", 100, "", 1);
        probe.tree(1, 0, 0);
        probe.runs("echo 12345678|wc", 100, "", 1);
        probe.runs("echo 1234567>f;echo 1234567>>f", 0, "");
        probe.runs("cat f", 100, "");
        probe.runs("cat<f", 100, "");
        probe.runs("cat f|wc", 100, "", 1);
        probe.runs("wc f", 0, "2 2 16\n");
        probe.runs("wc<f", 0, "2 2 16\n");
        probe.runs("grep 1 f", 100, "");
        probe.runs("grep 1<f", 100, "");
        probe.runs("grep x f", 1, "");
        probe.does("echo -n 12345678>g");
        probe.runs("cat g", 0, "12345678");
        probe.runs("grep 1 g", 100, "");
        probe.does("mkdir dddd");
        probe.runs("ls", 100, "");
        probe.runs("ls f", 0, "f\n");
    }

    private static void listOutputs() {
        Probe probe = new Probe(12, 160, 10);
        probe.runs("echo 1234;echo 1234", 0, "1234\n1234\n");
        probe.runs("echo 1234;echo 1234;echo", 100, "1234\n1234\n", 3);
        probe.runs("echo 1234;echo 12345;mkdir d", 100, "1234\n", 2);
        probe.tree(0, 0, 0);
        probe.runs("echo 1234;echo 12345|cat", 100, "1234\n", 3);
        probe.runs("echo 1234;(echo 12345)", 100, "1234\n", 2);
        probe.runs("echo 1234;echo 12345>f;cat f|wc", 100, "1234\n", 4);
        probe.runs("echo 123456789;nosuch;cat;echo -n", 0, "123456789\n", 4);
        probe.runs("echo 1234;mkdir d;cd d;echo 12345", 100, "1234\n", 4);
        probe.tree(2, 6, 1);
    }

    private static void groupOutputs() {
        Probe probe = new Probe(12, 160, 10);
        probe.runs("(echo 1234;echo 1234)|wc", 0, "2 2 10\n");
        probe.runs("(echo 1234;echo 12345)|wc", 100, "", 2);
        probe.runs("(echo 1234;echo 12345)>f", 100, "", 2);
        probe.tree(1, 0, 0);
        probe.runs("echo a;(echo b;(echo c;echo 12345678))", 100, "a\n", 4);
        probe.runs("echo a;(echo b);(echo c;echo 12345678)", 100, "a\nb\n", 4);
        probe.runs("(echo b;echo 123456789)", 100, "", 2);
        probe.runs("(echo 1234;echo 123456789>f)>g", 0, "");
        probe.runs("cat f;(cat g)|cat", 100, "123456789\n");
        probe.runs("(echo 1234)>>g;((cat g))", 0, "1234\n1234\n");
        probe.runs("(echo 1;(echo 2;echo 123456789)>h);echo", 100, "", 3);
        probe.runs("wc h", 0, "0 0 0\n");
    }

    private static void nodes() {
        Probe probe = new Probe(3, 160, 96);
        probe.does("mkdir a;echo>b;mkdir a/c");
        probe.runs("echo x;mkdir d;echo y", 100, "x\n", 2);
        probe.runs("echo x;echo y>d;echo z", 100, "x\n", 1);
        probe.runs("echo x;echo y>>a/d;echo z", 100, "x\n", 1);
        probe.runs("(echo x;echo y)>d", 100, "", 0);
        probe.runs("echo x>b>d", 100, "", 0);
        probe.tree(3, 0, 0);
        probe.runs("echo y>d<nosuch", 100, "", 0);
        probe.runs("echo y<nosuch>d", 1, "", 0);
        probe.runs("mkdir a;mkdir A;mkdir d/e;mkdir b/c", 1, "", 4);
        probe.runs("mkdir;mkdir a b;mkdir x y", 2, "", 3);
        probe.does("echo 1>b;echo 2>>b");
        probe.tree(3, 4, 0);
    }

    private static void contents() {
        Probe probe = new Probe(12, 10, 96);
        probe.does("echo 1234>f;echo 1234>g");
        probe.does("echo -n>>f;cat>>f;cat nosuch>>g||cat>h");
        probe.tree(3, 10, 0);
        probe.runs("echo>>f", 100, "", 1);
        probe.runs("echo -n x>>f", 100, "", 1);
        probe.runs("echo x>i", 100, "", 1);
        probe.tree(4, 10, 0);
        probe.does("echo 1234>f");
        probe.runs("echo 12345>f", 100, "", 1);
        probe.tree(4, 5, 0);
        probe.runs("cat f;cat g", 0, "1234\n");
        probe.does("(echo 12;echo 3>f)>i");
        probe.tree(4, 10, 0);
        probe.runs("(echo 12;echo 3>>f)>i", 100, "", 2);
        probe.tree(4, 9, 0);
        probe.runs("cat f i", 0, "3\n3\n");
        probe.runs("cat g g g>g", 0, "");
        probe.tree(4, 4, 0);
        probe.runs("echo 12345678901", 0, "12345678901\n");
    }

    private static void lineEnds() {
        Probe probe = new Probe(2, 10, 8);
        probe.runs("mkdir a;echo x>a/f;mkdir b;echo y", 100, "", 3);
        probe.tree(2, 2, 0);
        probe.runs("echo x;mkdir b||echo y", 100, "x\n", 2);
        probe.runs("echo x;!mkdir b&&echo y", 100, "x\n", 2);
        probe.runs("echo x;mkdir b|echo y", 100, "x\n", 2);
        probe.runs("echo x;echo y|mkdir b;echo z", 100, "x\n", 3);
        probe.runs("echo x;(echo y;mkdir b;echo z)||echo w", 100, "x\n", 3);
        probe.runs("(echo y;mkdir b)>a/f;echo w", 100, "", 2);
        probe.tree(2, 0, 0);
        probe.runs("(echo x>>a/f;mkdir b;echo x)>>a/f", 100, "", 2);
        probe.runs("cat a/f", 0, "x\n");
        probe.runs("echo x|(cat;mkdir b)|wc", 100, "", 3);
        probe.runs("!(echo x;mkdir b)", 100, "", 2);
    }

    private static void hereGoesBack() {
        Probe probe = new Probe(3, 10, 8);
        probe.does("mkdir a;mkdir a/b;mkdir a/b/c");
        probe.runs("cd a;(cd b;mkdir d)", 100, "", 3);
        probe.tree(3, 0, 1);
        probe.runs("cd;(cd a;(cd b;(cd c;mkdir d)))", 100, "", 5);
        probe.tree(3, 0, 0);
        probe.runs("cd a;cd b|mkdir d", 100, "", 3);
        probe.tree(3, 0, 1);
        probe.runs("(cd b;mkdir d)|cat", 100, "", 2);
        probe.tree(3, 0, 1);
        probe.runs("cat|(cd b;cd c;echo 123456789)", 100, "", 4);
        probe.tree(3, 0, 1);
        probe.runs("cd b;cd c;mkdir d;cd", 100, "", 3);
        probe.tree(3, 0, 3);
        probe.runs("cd;(cd a;echo 123;echo 1234)", 100, "", 4);
        probe.tree(3, 0, 0);
        probe.runs("cd a;echo>f", 100, "", 1);
        probe.tree(3, 0, 1);
    }

    private static void statusAfterwards() {
        Probe probe = new Probe(1, 0, 8);
        probe.does("mkdir d");
        probe.runs("mkdir e", 100, "");
        Probe.due("status()", probe.shell.status(), 100);
        probe.runs("", 100, "", 0);
        probe.runs("(", -1, "", 0);
        Probe.due("status()", probe.shell.status(), 100);
        probe.runs("echo $?", 0, "100\n");
        probe.runs("mkdir e", 100, "");
        probe.runs("cat<x$?;(echo $?|cat)", 0, "1\n");
        probe.runs("mkdir e", 100, "");
        probe.runs("(echo $?)", 0, "100\n");
        probe.runs("mkdir e", 100, "");
        probe.runs("(cat d||echo $?)", 0, "1\n");
    }

    private static void statusesAheadOfSpace() {
        Probe probe = new Probe(2, 160, 8);
        probe.does("echo 1234>f;echo 1234>g");
        probe.runs("cat f g", 100, "");
        probe.runs("cat f g nosuch", 1, "");
        probe.runs("cat f f f nosuch f", 1, "");
        probe.runs("wc f g", 2, "");
        probe.runs("grep 1 f g", 2, "");
        probe.runs("mkdir h i", 2, "");
        probe.runs("mkdir nosuch/h", 1, "");
    }
}
