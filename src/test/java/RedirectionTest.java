/** Promise 6, RUNNING: redirections, those that cannot be made among them. */
public final class RedirectionTest {
    public static void main(String[] args) {
        leftToRight();
        contentNow();
        targetBecomesEmpty();
        targetIsMade();
        contentStays();
        lastOneCounts();
        allAreMade();
        pathsThatCannotBe();
        whatWasMadeStays();
        outputIsAddedAtTheEnd();
        outputIsEmptyThen();
        Probe.finish("RedirectionTest");
    }

    private static Probe withFiles() {
        Probe probe = Probe.roomy();
        probe.does("echo one>f;echo two>g;mkdir d");
        return probe;
    }

    private static void leftToRight() {
        Probe.sentence("REDIRECTIONS of a command are made from left to right, before it is run.");
        Probe probe = withFiles();
        probe.runs("cat<f>f;cat f", 0, "one\n");
        probe.runs("cat>f<f;wc f", 0, "0 0 0\n");
        probe.runs("cat<n>n", 1, "", 0);
        probe.runs("ls n", 1, "");
        probe.does("cat>n<n");
        probe.runs("ls n", 0, "n\n");
        probe.runs("cat g>g;wc g", 0, "0 0 0\n");
        probe.runs("ls>m", 0, "");
        probe.runs("cat m", 0, "d/\nf\ng\nm\nn\n");
        probe.does("cd d>k");
        probe.runs("ls;ls ..", 0, "d/\nf\ng\nk\nm\nn\n");
    }

    private static void contentNow() {
        Probe.sentence("< w : its input is the content that the file named by path w has now.");
        Probe probe = withFiles();
        probe.runs("cat<f", 0, "one\n");
        probe.runs("<f cat", 0, "one\n");
        probe.runs("cat<d/../f", 0, "one\n");
        probe.runs("echo x|cat<f", 0, "one\n");
        probe.runs("cat g<f", 0, "two\n");
        probe.runs("(echo x>>g;cat;cat g)<g", 0, "two\ntwo\nx\n");
        probe.runs("(echo y>g;cat)<g;cat g", 0, "two\nx\ny\n");
        probe.runs("cat<f>>f;cat f", 0, "one\none\n");
        probe.does("cat>e");
        probe.runs("wc<e", 0, "0 0 0\n");
        probe.runs("cat f|cat<e", 0, "");
    }

    private static void targetBecomesEmpty() {
        Probe.sentence("> w : its TARGET is the file named by path w, whose content becomes empty");
        Probe probe = withFiles();
        probe.does("echo x>f");
        probe.runs("cat f", 0, "x\n");
        probe.does("cat>f");
        probe.tree(3, 4, 0);
        probe.runs("nosuch>g", 127, "", 1);
        probe.tree(3, 0, 0);
        probe.does("echo y>g;cd d;echo z>../g");
        probe.runs("cat /g", 0, "z\n");
        probe.does("(cat /g)>/g");
        probe.tree(3, 0, 1);
    }

    private static void targetIsMade() {
        Probe.sentence("or, if w is vacant, a new empty file there");
        Probe probe = withFiles();
        probe.does("cat>e;echo x>d/e;cat>>d/h");
        probe.runs("ls;ls d;wc e;cat d/e;wc d/h", 0, "d/\ne\nf\ng\ne\nh\n0 0 0\nx\n0 0 0\n");
        probe.runs("nosuch>n", 127, "", 1);
        probe.runs("cat nosuch>>o", 1, "", 1);
        probe.runs("wc n;wc o", 0, "0 0 0\n0 0 0\n");
        probe.does("(cd d;echo in>p)>p;echo out>>p");
        probe.runs("cat d/p p", 0, "in\nout\n");
    }

    private static void contentStays() {
        Probe.sentence(">> w likewise, but a content stays.");
        Probe probe = withFiles();
        probe.does("echo x>>f;cat>>g;echo y>>n");
        probe.runs("cat f g n", 0, "one\nx\ntwo\ny\n");
        probe.runs("nosuch>>f", 127, "");
        probe.runs("cat f", 0, "one\nx\n");
        probe.does("cat g>>g");
        probe.runs("cat g", 0, "two\ntwo\n");
    }

    private static void lastOneCounts() {
        Probe.sentence("Of several the last one counts (for < and for > with >>)");
        Probe probe = withFiles();
        probe.runs("cat<f<g", 0, "two\n");
        probe.runs("<g cat<f", 0, "one\n");
        probe.does("echo a>h>i");
        probe.runs("wc h;cat i", 0, "0 0 0\na\n");
        probe.does("echo b>>i>h>>i");
        probe.runs("cat i", 0, "a\nb\n");
        probe.does("echo c>i>>h");
        probe.runs("wc i;cat h", 0, "0 0 0\nc\n");
        probe.does("echo d>>h>i");
        probe.runs("cat h i", 0, "c\nd\n");
        probe.does("(cat;echo x)<f>h<g>i");
        probe.runs("cat i", 0, "two\nx\n");
        probe.does("cat>>i<f");
        probe.runs("cat i", 0, "two\nx\none\n");
    }

    private static void allAreMade() {
        Probe.sentence("but all are made");
        Probe probe = withFiles();
        probe.does("echo a>f>g");
        probe.runs("wc f;cat g", 0, "0 0 0\na\n");
        probe.does(">h echo d>>i>j");
        probe.runs("wc h;wc i;cat j", 0, "0 0 0\n0 0 0\nd\n");
        probe.does("echo b>g>>g");
        probe.runs("cat g", 0, "b\n");
        probe.does("echo c>>g>g");
        probe.runs("cat g", 0, "c\n");
        probe.runs("cat<nosuch<g", 1, "", 0);
        probe.does("(echo e)>k>l");
        probe.runs("wc k;cat l", 0, "0 0 0\ne\n");
    }

    private static void pathsThatCannotBe() {
        Probe.sentence("because the path names a directory, or nothing (for > and >>: and is not vacant), the command is not run: its status is 1 and its output empty");
        String[] wrong = {
            "<d", "</", "<''", "<n", "<f/x", "<A", ">d", ">/", ">''", ">..", ">A", ">f/x", ">n/x", ">toolong8", ">n/..",
            ">>d", ">>/", ">>''", ">>.", ">>A", ">>f/x", ">>n/x", ">>toolong8",
        };
        for (String redirection : wrong) {
            Probe probe = withFiles();
            probe.runs("mkdir m" + redirection, 1, "", 0);
            probe.runs("echo x" + redirection, 1, "", 0);
            probe.runs("(echo x;mkdir m)" + redirection, 1, "", 0);
            probe.runs("nosuch" + redirection, 1, "", 0);
            probe.runs(redirection + " echo x|wc", 0, "0 0 0\n", 1);
            probe.runs("cd d" + redirection + "||echo $?", 0, "1\n", 1);
            probe.runs("!echo x" + redirection, 0, "", 0);
            probe.tree(3, 8, 0);
        }
    }

    private static void whatWasMadeStays() {
        Probe.sentence("what was made before stays");
        Probe probe = withFiles();
        probe.runs("echo e>f>/>j", 1, "", 0);
        probe.runs("wc f;ls", 0, "0 0 0\nd/\nf\ng\n");
        probe.runs("echo e>j<nosuch>k", 1, "", 0);
        probe.runs("ls", 0, "d/\nf\ng\nj\n");
        probe.runs("(echo e)<nosuch>k>g", 1, "", 0);
        probe.runs("(echo e;mkdir e)>l>nosuch/m", 1, "", 0);
        probe.runs("ls;cat g", 0, "d/\nf\ng\nj\nl\ntwo\n");
        probe.runs("echo e>>g<d", 1, "", 0);
        probe.runs("cat g", 0, "two\n");
    }

    private static void outputIsAddedAtTheEnd() {
        Probe.sentence("When a command that has a TARGET ends, its output is added at the end of the target's content");
        Probe probe = Probe.roomy();
        probe.does("(echo a;echo b|cat;nosuch||echo c)>f");
        probe.runs("cat f", 0, "a\nb\nc\n");
        probe.runs("(echo a;nosuch)>>f", 127, "");
        probe.runs("cat f", 0, "a\nb\nc\na\n");
        probe.does("(echo x>f;cat f;echo y>>f)>>f");
        probe.runs("cat f", 0, "x\ny\nx\n");
        probe.does("(echo z;echo w>f)>f");
        probe.runs("cat f", 0, "w\nz\n");
        probe.does("((echo 1;echo 2>>f)>>f;echo 3)>>f");
        probe.runs("cat f", 0, "w\nz\n2\n1\n3\n");
        probe.does("(echo a;wc f)>f");
        probe.runs("cat f", 0, "a\n0 0 0\n");
    }

    private static void outputIsEmptyThen() {
        Probe.sentence("and its output is empty then");
        Probe probe = Probe.roomy();
        probe.runs("echo a>f", 0, "");
        probe.runs("echo a>f;echo b", 0, "b\n");
        probe.runs("echo a>f|wc", 0, "0 0 0\n");
        probe.runs("(echo a;echo b)>f|wc", 0, "0 0 0\n");
        probe.runs("(echo a>f;echo b)|cat", 0, "b\n");
        probe.runs("echo b>f|cat f", 0, "b\n");
    }
}
