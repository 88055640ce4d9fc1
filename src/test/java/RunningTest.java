/** Promise 6, RUNNING: lists, pipelines, groups and redirections, and what STATUS is meanwhile. */
public final class RunningTest {
    public static void main(String[] args) {
        statusInWords();
        statusOnlyWithTheQuestionMarkBehind();
        statusWhenTheCommandComes();
        answersStatus();
        emptyInput();
        outputsOfLists();
        behindAnd();
        behindOr();
        pipelineOfOneCommand();
        pipelineOfMoreCommands();
        hereAfterPipelines();
        statusOfPipelines();
        turnedStatus();
        groups();
        hereAfterGroups();
        statusOfGroups();
        names();
        unknownNames();
        Probe.finish("RunningTest");
    }

    private static void statusInWords() {
        Probe.sentence("stands with that for STATUS in decimal digits");
        Probe probe = new Probe(1, 160, 96);
        probe.runs("echo $?", 0, "0\n");
        probe.runs("cat x;echo a$?b$?$?", 0, "a1b11\n");
        probe.runs("wc a b;echo \"$?\"", 0, "\"2\"\n");
        probe.runs("nosuch;echo $?;echo $?", 0, "127\n0\n");
        probe.runs("mkdir d;mkdir e", 100, "");
        probe.runs("echo $?", 0, "100\n");
        probe.runs("nosuch;echo " + "$?".repeat(26), 0, "127".repeat(26) + "\n");
        probe.runs("nosuch;echo " + "$? ".repeat(17), 0, "127 ".repeat(16) + "127\n");
        probe.runs("$?", 127, "");
        probe.runs("cat x;echo 1|grep $?;cat $?", 1, "1\n");
    }

    private static void statusOnlyWithTheQuestionMarkBehind() {
        Probe.sentence("a $ outside of quotes with a ? directly behind it (no quote between)");
        Probe probe = Probe.roomy();
        probe.runs("wc a b;echo '$?' $'?' '$'? $''? '$'$?", 0, "$? $? $? $? $2\n");
        probe.runs("nosuch;echo $$? $?? '?'$? $?'?' ''$?''", 0, "$127 127? ?127 127? 127\n");
        Probe.sentence("another $ is plain");
        probe.runs("nosuch;echo $ $a $$ ? a$ $ ? $", 0, "$ $a $$ ? a$ $ ? $\n");
        probe.runs("nosuch;echo -n $", 0, "$");
        probe.runs("nosuch;echo $?", 0, "127\n");
        probe.runs("nosuch;echo $", 0, "$\n");
        probe.runs("echo " + "a".repeat(58) + "$", 0, "a".repeat(58) + "$\n");
    }

    private static void statusWhenTheCommandComes() {
        Probe.sentence("as it is when its command (or its redirection) comes to be run");
        Probe probe = Probe.roomy();
        probe.runs("nosuch|echo $?;nosuch;echo a|echo $?", 0, "0\n127\n");
        probe.runs("(nosuch;cat x)|echo $?", 0, "1\n");
        probe.runs("nosuch;(echo $?;echo $?)", 0, "127\n0\n");
        probe.runs("!echo a;echo $?;!nosuch;echo $?", 0, "a\n1\n0\n");
        probe.runs("nosuch;(cat x;echo $?)>f$?;echo $?>>g$?;ls", 0, "f127\ng0\n");
        probe.runs("cat f127 g0;cat<g$?", 0, "1\n0\n0\n");
        probe.runs("nosuch&&echo a$?||echo b$?", 0, "b127\n");
    }

    private static void answersStatus() {
        Probe.sentence("Answers STATUS");
        Probe probe = new Probe(1, 10, 8);
        probe.runs("nosuch;echo", 0, "\n");
        probe.runs("echo;nosuch", 127, "\n");
        probe.runs("nosuch&&echo", 127, "");
        probe.runs("echo||nosuch", 0, "\n");
        probe.runs("wc x y;", 2, "");
        probe.runs("(cat x)", 1, "");
        probe.runs("echo 12345678", 100, "");
    }

    private static void emptyInput() {
        Probe.sentence("A LINE has the empty input.");
        Probe probe = Probe.roomy();
        probe.runs("cat", 0, "");
        probe.runs("echo x", 0, "x\n");
        probe.runs("wc", 0, "0 0 0\n");
        probe.runs("cat;wc;cat", 0, "0 0 0\n");
        probe.runs("grep ''", 1, "");
        probe.runs("(((cat)|wc))", 0, "0 0 0\n");
        probe.runs("echo x|cd;cat", 0, "");
    }

    private static void outputsOfLists() {
        Probe.sentence("Their outputs make up its output: what a pipeline of them gives is put out as soon as it ends.");
        Probe probe = new Probe(1, 160, 10);
        probe.runs("echo a;", 0, "a\n");
        probe.runs("echo a;echo b&&echo c||echo d;echo e", 0, "a\nb\nc\ne\n");
        probe.runs("echo a;nosuch;cat x;echo b|cat;(echo c)", 0, "a\nb\nc\n");
        probe.runs("(echo a;(echo b;echo c);echo d)|cat", 0, "a\nb\nc\nd\n");
        probe.runs("mkdir d;echo a|cat;(echo b);mkdir e", 100, "a\nb\n");
        probe.runs("echo a&&echo b&&mkdir e", 100, "a\nb\n");
    }

    private static void behindAnd() {
        Probe.sentence("one behind && only if STATUS is 0");
        Probe probe = Probe.roomy();
        probe.runs("echo a&&echo b", 0, "a\nb\n", 2);
        probe.runs("cat x&&echo b", 1, "", 1);
        probe.runs("nosuch&&echo b&&echo c", 127, "", 1);
        probe.runs("nosuch&&echo b||echo c", 0, "c\n", 2);
        probe.runs("echo a||nosuch&&echo c", 0, "a\nc\n", 2);
        probe.runs("nosuch&&echo b;echo c", 0, "c\n", 2);
        probe.runs("cat x;echo a&&echo b", 0, "a\nb\n", 3);
        probe.runs("!cat x&&echo b", 0, "b\n", 2);
        probe.runs("(cat x||nosuch)&&echo a", 127, "", 2);
    }

    private static void behindOr() {
        Probe.sentence("one behind || only if it is not 0");
        Probe probe = Probe.roomy();
        probe.runs("echo a||echo b", 0, "a\n", 1);
        probe.runs("cat x||echo b", 0, "b\n", 2);
        probe.runs("wc x y||echo b", 0, "b\n", 2);
        probe.runs("nosuch||echo b||echo c", 0, "b\n", 2);
        probe.runs("nosuch||echo b&&echo c", 0, "b\nc\n", 3);
        probe.runs("echo a&&cat x||wc a b||nosuch", 127, "a\n", 4);
        probe.runs("cat x&&echo a||!echo b||echo c", 0, "b\nc\n", 3);
        probe.runs("echo a||nosuch;echo c", 0, "a\nc\n", 2);
        probe.runs("cat<nosuch||echo $?", 0, "1\n", 1);
    }

    private static void pipelineOfOneCommand() {
        Probe.sentence("A PIPELINE of one command runs that with its own input.");
        Probe probe = Probe.roomy();
        probe.does("mkdir d;cd d");
        Probe.due("depth() after a pipeline of one command", probe.depth(), 1);
        probe.runs("!cd ..", 1, "");
        Probe.due("depth() after a turned one", probe.depth(), 0);
        probe.runs("echo a|(!cat)", 1, "a\n");
    }

    private static void pipelineOfMoreCommands() {
        Probe.sentence("With more commands the first has the input of the pipeline, each further one the output of the one before it; the last one's output is the pipeline's");
        Probe probe = Probe.roomy();
        probe.runs("echo a b|cat|wc", 0, "1 2 4\n", 3);
        probe.runs("echo a|(cat|wc)", 0, "1 1 2\n");
        probe.runs("echo a|echo b", 0, "b\n");
        probe.runs("nosuch|echo a", 0, "a\n", 2);
        probe.runs("echo a|nosuch|cat", 0, "", 3);
        probe.runs("echo a|nosuch|wc", 0, "0 0 0\n", 3);
        probe.runs("echo a|cat>f|wc;cat f", 0, "0 0 0\na\n");
        probe.runs("echo a|cat<nosuch|wc", 0, "0 0 0\n", 2);
        probe.runs("echo a|cat>/|wc", 0, "0 0 0\n", 2);
        probe.runs("echo a|(echo b;echo c)|wc", 0, "2 2 4\n");
        probe.runs("echo a|cat|cat|cat|cat|cat|cat|cat|cat|cat|cat|cat|cat|cat", 0, "a\n", 14);
    }

    private static void hereAfterPipelines() {
        Probe.sentence("and when each has ended, HERE is again what it was before that command");
        Probe probe = Probe.roomy();
        probe.does("mkdir d;mkdir d/e;echo x>f");
        probe.runs("cd d|ls", 0, "d/\nf\n");
        Probe.due("depth() after the first", probe.depth(), 0);
        probe.runs("echo a|cd d;ls", 0, "d/\nf\n");
        Probe.due("depth() after the last", probe.depth(), 0);
        probe.runs("echo a|cd d|ls|cat", 0, "d/\nf\n");
        probe.runs("(cd d;ls)|cat;ls", 0, "e/\nd/\nf\n");
        probe.does("cd d;cd e|cd ..|cd /");
        Probe.due("depth() after all", probe.depth(), 1);
        probe.does("!cd|cd nosuch");
        Probe.due("depth() after a turned one", probe.depth(), 1);
        probe.runs("cd e|(ls;cd e;ls;ls ..)|cat", 0, "e/\ne/\n");
        Probe.due("depth() after a group", probe.depth(), 1);
    }

    private static void statusOfPipelines() {
        Probe.sentence("Its status is the last command's");
        Probe probe = Probe.roomy();
        probe.runs("echo a|nosuch", 127, "", 2);
        probe.runs("nosuch|cat", 0, "", 2);
        probe.runs("cat x|wc a b", 2, "", 2);
        probe.runs("echo a|cat<nosuch", 1, "", 1);
        probe.runs("echo a|(cat;nosuch)", 127, "a\n", 3);
    }

    private static void turnedStatus() {
        Probe.sentence("but with ! it is 1 if that is 0 and 0 otherwise");
        Probe probe = Probe.roomy();
        probe.runs("!echo a", 1, "a\n");
        probe.runs("!cat x", 0, "");
        probe.runs("!wc a b", 0, "");
        probe.runs("!nosuch", 0, "");
        probe.runs("!echo a|nosuch", 0, "", 2);
        probe.runs("!nosuch|echo a", 1, "a\n", 2);
        probe.runs("!(echo a;nosuch)", 0, "a\n");
        probe.runs("!cat<nosuch", 0, "", 0);
        probe.runs("!echo a&&echo b;!nosuch&&echo c", 0, "a\nc\n");
        probe.runs("!(!(!(!nosuch)))", 1, "");
    }

    private static void groups() {
        Probe.sentence("A GROUP, ( list ), runs the list with its own input");
        Probe probe = Probe.roomy();
        probe.runs("(echo a;nosuch)|cat;(nosuch;echo b)", 0, "a\nb\n");
        probe.runs("((((echo a;echo b)|cat)|cat)|cat)", 0, "a\nb\n", 5);
        probe.runs("echo x;((echo y;(echo z)));echo w", 0, "x\ny\nz\nw\n");
        probe.runs("echo a|((((cat))))", 0, "a\n");
        probe.runs("echo a|(echo b|(echo c|(cat);cat);cat)", 0, "c\nb\na\n");
        probe.does("echo f>f");
        probe.runs("echo a|((((cat)<f);cat);cat)", 0, "f\na\n");
    }

    private static void hereAfterGroups() {
        Probe.sentence("when it has ended, HERE is again what it was before the group");
        Probe probe = Probe.roomy();
        probe.does("mkdir d;mkdir d/e;(cd d)");
        Probe.due("depth() after a group", probe.depth(), 0);
        probe.runs("(cd d;ls;(cd e;echo x>f);ls);ls", 0, "e/\ne/\nd/\n");
        probe.tree(3, 2, 0);
        probe.does("cd d;(cd e;cd ..;cd ..)");
        Probe.due("depth() after a group", probe.depth(), 1);
        probe.runs("((((cd e);ls);cd e;ls);ls)", 0, "e/\nf\ne/\n");
        probe.runs("(cd e;ls)>../out;cat ../out;(cat ../out)<../out", 0, "f\nf\n");
        probe.runs("!(cd /;nosuch)", 0, "");
        probe.runs("(cd e;cat<nosuch)", 1, "");
        Probe.due("depth() after a group that fails", probe.depth(), 1);
    }

    private static void statusOfGroups() {
        Probe.sentence("Its status is STATUS then.");
        Probe probe = Probe.roomy();
        probe.runs("(echo a;nosuch)", 127, "a\n", 2);
        probe.runs("(nosuch;echo a)", 0, "a\n", 2);
        probe.runs("(nosuch&&echo a)", 127, "", 1);
        probe.runs("((cat x);)", 1, "", 1);
        probe.runs("(!echo a)||echo b", 0, "a\nb\n");
        probe.runs("(echo a;nosuch)>f", 127, "");
        probe.runs("(nosuch)&&echo a||(wc x y)", 2, "");
    }

    private static void names() {
        Probe.sentence("A simple command is a tool's name (its first word) with ARGUMENTS (its other words)");
        Probe probe = Probe.roomy();
        probe.runs("echo a  b   c", 0, "a b c\n");
        probe.runs("echo 'a  b'   c", 0, "a  b c\n");
        probe.runs("echo a'b'c 'd''e' 'f'g", 0, "abc de fg\n");
        probe.runs("echo ''a'' '' b", 0, "a  b\n");
        probe.runs("'echo' x", 0, "x\n");
        probe.runs("e'ch'o x", 0, "x\n");
        probe.runs("echo ';&&||<>>()!& $?'", 0, ";&&||<>>()!& $?\n");
        probe.runs("echo \"a b\" \\n # x *", 0, "\"a b\" \\n # x *\n");
        probe.runs("echo a;echo b", 0, "a\nb\n");
        probe.does(">f echo a<f b>g c;cat>h<g");
        probe.runs("cat h", 0, "a b c\n");
        probe.runs("<h cat", 0, "a b c\n");
    }

    private static void unknownNames() {
        Probe.sentence("an unknown name has status 127");
        String[] unknown = {
            "nosuch", "ECHO x", "Echo", "echo2", "ech", "ecoh", "'echo x'", "'' x", "''", "'echo '", "' echo'", "./echo",
            "/", "c", "ca", "catt", "w", "wcc", "gre", "grepp", "l", "lss", "mkdi", "mkdirs", "cdd", "cd/", "$", "-n",
        };
        for (String line : unknown) {
            Probe probe = Probe.roomy();
            probe.runs(line, 127, "", 1);
            probe.runs("echo a|(" + line + ";cat)", 0, "a\n", 3);
            probe.runs(line + ">f", 127, "", 1);
            probe.tree(1, 0, 0);
        }
    }
}
