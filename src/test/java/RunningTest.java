/** Promise 6: how lists, pipelines, groups and redirections are run, and what STATUS is meanwhile. */
public final class RunningTest {
    public static void main(String[] args) {
        emptyLines();
        words();
        statusInWords();
        lists();
        pipelines();
        groups();
        sharedInput();
        inputRedirections();
        outputRedirections();
        severalRedirections();
        commandsThatAreCounted();
        Probe.finish("RunningTest");
    }

    private static void emptyLines() {
        Probe probe = Probe.roomy();
        probe.runs("", 0, "", 0);
        probe.runs("echo x;cat nosuch", 1, "x\n", 2);
        probe.runs("", 1, "", 0);
        probe.runs("echo x;nosuch", 127, "x\n", 2);
        probe.runs("    ", 127, "", 0);
        Probe.due("status()", probe.shell.status(), 127);
    }

    private static void words() {
        Probe probe = Probe.roomy();
        probe.runs("echo a  b   c", 0, "a b c\n");
        probe.runs("echo 'a  b'   c", 0, "a  b c\n");
        probe.runs("echo a'b'c 'd''e' 'f'g", 0, "abc de fg\n");
        probe.runs("echo ''a'' '' b", 0, "a  b\n");
        probe.runs("'echo' x", 0, "x\n");
        probe.runs("e'ch'o x", 0, "x\n");
        probe.runs("'echo x'", 127, "");
        probe.runs("'' x", 127, "");
        probe.runs("echo ';&&||<>>()!& $?'", 0, ";&&||<>>()!& $?\n");
        probe.runs("echo a;echo b", 0, "a\nb\n");
        probe.runs("echo \"a b\" \\n # x *", 0, "\"a b\" \\n # x *\n");
        probe.runs("ECHO x", 127, "");
        probe.runs("echo2", 127, "");
        probe.runs("ech", 127, "");
    }

    private static void statusInWords() {
        Probe probe = Probe.roomy();
        probe.runs("echo $?", 0, "0\n");
        probe.runs("nosuch;echo $?;echo $?", 0, "127\n0\n");
        probe.runs("cat x;echo a$?b$?$?", 0, "a1b11\n");
        probe.runs("wc a b;echo '$?' $'?' '$'? $''? \"$?\"", 0, "$? $? $? $? \"2\"\n");
        probe.runs("nosuch;echo $$? $ $a $$ ? $?? '?'$?", 0, "$127 $ $a $$ ? 127? ?127\n");
        probe.runs("nosuch", 127, "");
        probe.runs("echo $?", 0, "127\n");
        probe.runs("nosuch;echo " + "$?".repeat(26), 0, "127".repeat(26) + "\n");
        probe.runs("nosuch|echo $?;nosuch;echo a|echo $?", 0, "0\n127\n");
        probe.runs("(nosuch;cat x)|echo $?", 0, "1\n");
        probe.runs("nosuch;(echo $?;echo $?)", 0, "127\n0\n");
        probe.runs("nosuch;(cat x;echo $?)>f$?;echo $?>>g$?;ls", 0, "f127\ng0\n");
        probe.runs("cat f127 g0;cat<g$?", 0, "1\n0\n0\n");
        probe.runs("$?", 127, "");
        probe.runs("!echo a;echo $?;!nosuch;echo $?", 0, "a\n1\n0\n");
    }

    private static void lists() {
        Probe probe = Probe.roomy();
        probe.runs("echo a&&echo b||echo c", 0, "a\nb\n", 2);
        probe.runs("nosuch&&echo b||echo c", 0, "c\n", 2);
        probe.runs("nosuch||echo b&&echo c", 0, "b\nc\n", 3);
        probe.runs("echo a||echo b&&echo c", 0, "a\nc\n", 2);
        probe.runs("nosuch&&echo b&&echo c", 127, "", 1);
        probe.runs("nosuch&&echo b;echo c", 0, "c\n", 2);
        probe.runs("echo a||nosuch;echo c", 0, "a\nc\n", 2);
        probe.runs("echo a&&cat x||wc a b||nosuch", 127, "a\n", 4);
        probe.runs("cat x&&echo a||!echo b||echo c", 0, "b\nc\n", 3);
        probe.runs("(cat x||nosuch)&&echo a", 127, "", 2);
        probe.runs("echo a;", 0, "a\n");
        probe.runs("nosuch;", 127, "");
    }

    private static void pipelines() {
        Probe probe = Probe.roomy();
        probe.runs("echo a b|cat|wc", 0, "1 2 4\n", 3);
        probe.runs("nosuch|echo a", 0, "a\n", 2);
        probe.runs("echo a|nosuch", 127, "", 2);
        probe.runs("echo a|nosuch|cat", 0, "", 3);
        probe.runs("echo a|echo b", 0, "b\n");
        probe.runs("!echo a|nosuch", 0, "", 2);
        probe.runs("!nosuch|echo a", 1, "a\n", 2);
        probe.runs("!wc a b", 0, "");
        probe.runs("echo a|cat>f|wc;cat f", 0, "0 0 0\na\n");
        probe.runs("echo a|cat<nosuch|wc", 0, "0 0 0\n", 2);
        probe.does("mkdir d;mkdir d/e");
        probe.runs("cd d|ls", 0, "d/\nf\n");
        probe.runs("echo a|cd d;ls", 0, "d/\nf\n");
        probe.runs("(cd d;ls)|cat;ls", 0, "e/\nd/\nf\n");
        probe.tree(3, 2, 0);
        probe.runs("!cd d", 1, "");
        probe.tree(3, 2, 1);
        probe.does("cd|cd e");
        probe.tree(3, 2, 1);
    }

    private static void groups() {
        Probe probe = Probe.roomy();
        probe.runs("(echo a;nosuch)", 127, "a\n", 2);
        probe.runs("(echo a;nosuch)|cat;(nosuch;echo b)", 0, "a\nb\n");
        probe.runs("((((echo a;echo b)|cat)|cat)|cat)", 0, "a\nb\n", 5);
        probe.runs("echo x;((echo y;(echo z)));echo w", 0, "x\ny\nz\nw\n");
        probe.runs("!(echo a;nosuch)", 0, "a\n");
        probe.does("mkdir d;mkdir d/e");
        probe.runs("(cd d;ls;(cd e;echo x>f);ls);ls", 0, "e/\ne/\nd/\n");
        probe.tree(3, 2, 0);
        probe.does("cd d;(cd e;cd ..;cd ..)");
        probe.tree(3, 2, 1);
        probe.runs("(cd e;ls)>../out;cat ../out;(cat ../out)<../out", 0, "f\nf\n");
        probe.does("(cd /;cd d)");
        probe.tree(4, 4, 1);
    }

    private static void sharedInput() {
        Probe probe = Probe.roomy();
        probe.runs("cat;wc;cat", 0, "0 0 0\n");
        probe.runs("echo a|(cat;wc)", 0, "a\n0 0 0\n");
        probe.runs("echo a|(wc;cat;wc)", 0, "1 1 2\n0 0 0\n");
        probe.runs("echo a|(grep b;cat;echo $?)", 0, "0\n");
        probe.runs("echo a|(grep b||cat;echo c)", 0, "c\n");
        probe.runs("echo a|(wc x y;wc x;grep;grep a b c;grep a b;cat)", 0, "a\n", 7);
        probe.runs("echo a|(cat x;echo b;ls;mkdir d;cd d;nosuch;cat)", 0, "b\na\n");
        probe.runs("echo a|(cat<nosuch;cat)", 0, "a\n");
        probe.does("echo f>f");
        probe.runs("echo a|(cat f;wc f;grep f f;cat)", 0, "f\n1 1 2\nf\na\n");
        probe.runs("echo a|(cat<f;cat)", 0, "f\na\n");
        probe.runs("echo a|((cat);cat;echo b)", 0, "a\nb\n");
        probe.runs("echo a|(((echo b|cat));((cat));cat)", 0, "b\na\n");
        probe.runs("echo a|(cat|wc;cat)", 0, "1 1 2\n");
        probe.runs("echo a|(echo b|cat;cat)", 0, "b\na\n");
        probe.runs("echo a|(echo b|(cat;cat);cat)", 0, "b\na\n");
        probe.runs("echo a|(nosuch&&cat||wc)", 0, "1 1 2\n");
        probe.runs("(cat;cat)<f", 0, "f\n");
        probe.runs("(echo b|cat;cat)<f", 0, "b\nf\n");
        probe.runs("((cat;cat)<f;cat)<f", 0, "f\nf\n");
        probe.runs("echo a|(cat>g;cat);cat g", 0, "a\n");
    }

    private static void inputRedirections() {
        Probe probe = Probe.roomy();
        probe.does("echo one>f;echo two>g");
        probe.runs("cat<f", 0, "one\n");
        probe.runs("<f cat", 0, "one\n");
        probe.runs("cat<f<g", 0, "two\n");
        probe.runs("<g cat<f", 0, "one\n");
        probe.runs("echo x|cat<f", 0, "one\n");
        probe.runs("cat g<f", 0, "two\n");
        probe.runs("cat<nosuch", 1, "", 0);
        probe.runs("(echo a;cat)<nosuch", 1, "", 0);
        probe.runs("cat<f>f;cat f", 0, "one\n");
        probe.runs("cat>f<f;wc f", 0, "0 0 0\n");
        probe.runs("(echo x>>g;cat;cat g)<g", 0, "two\ntwo\nx\n");
        probe.runs("(echo y>g;cat)<g;cat g", 0, "two\nx\ny\n");
        probe.does("cat g>>g");
        probe.runs("cat g", 0, "y\ny\n");
    }

    private static void outputRedirections() {
        Probe probe = Probe.roomy();
        probe.does("echo a>f");
        probe.runs("cat f", 0, "a\n");
        probe.does("echo b>>f;echo c>>g");
        probe.runs("cat f g", 0, "a\nb\nc\n");
        probe.does("echo d>f");
        probe.tree(2, 4, 0);
        probe.runs("nosuch>f", 127, "", 1);
        probe.tree(2, 2, 0);
        probe.runs("cat nosuch>>g", 1, "", 1);
        probe.tree(2, 2, 0);
        probe.does("(echo a;echo b|cat;nosuch||echo c)>f");
        probe.runs("cat f", 0, "a\nb\nc\n");
        probe.runs("(echo a;nosuch)>>f", 127, "");
        probe.runs("cat f", 0, "a\nb\nc\na\n");
        probe.does("(echo x>f;cat f;echo y>>f)>>f");
        probe.runs("cat f", 0, "x\ny\nx\n");
        probe.does("(echo z;echo w>f)>f");
        probe.runs("cat f", 0, "w\nz\n");
        probe.runs("cat f>f;wc f", 0, "0 0 0\n");
        probe.does("mkdir d;(cd d;echo in>h)>h;echo out>>h");
        probe.runs("cat d/h h", 0, "in\nout\n");
        probe.does("cd d>k");
        probe.tree(6, 9, 1);
    }

    private static void severalRedirections() {
        Probe probe = Probe.roomy();
        probe.does("echo old>f;echo old>g");
        probe.does("echo a>f>g");
        probe.runs("cat f g;wc f", 0, "a\n0 0 0\n");
        probe.does("echo b>>g>f>>g");
        probe.runs("cat f g", 0, "a\nb\n");
        probe.does("echo c>g>>f");
        probe.runs("wc g;cat f", 0, "0 0 0\nc\n");
        probe.does(">h echo d>>i");
        probe.runs("wc h;cat i", 0, "0 0 0\nd\n");
        probe.runs("echo e>f>/>j", 1, "", 0);
        probe.runs("wc f;ls", 0, "0 0 0\nf\ng\nh\ni\n");
        probe.runs("echo e>j<nosuch>k", 1, "", 0);
        probe.runs("(echo e)<nosuch>k", 1, "", 0);
        probe.runs("(echo e;mkdir d)>l>nosuch/m", 1, "", 0);
        probe.runs("ls", 0, "f\ng\nh\ni\nj\nl\n");
        probe.runs("<i>m cat>n;wc m;cat n", 0, "0 0 0\nd\n");
        probe.runs("cat<i<nosuch||echo $?", 0, "1\n");
        probe.runs("!cat<nosuch", 0, "", 0);
    }

    private static void commandsThatAreCounted() {
        Probe probe = Probe.roomy();
        probe.runs("nosuch", 127, "", 1);
        probe.runs("echo a;(echo b|cat;wc x y);mkdir /", 1, "a\nb\n", 5);
        probe.runs("cat<nosuch;echo a>/;cat", 0, "", 1);
        probe.runs("nosuch&&cat;nosuch||echo a", 0, "a\n", 3);
        probe.runs("((((echo))))", 0, "\n", 1);
        probe.runs("a;".repeat(32), 127, "", 32);
        Probe.due("ran() again", probe.shell.ran(), 32);
        probe.runs("", 127, "", 0);
    }
}
