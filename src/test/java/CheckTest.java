/** Promise 5, and what enter() answers to lines outside of the grammar. */
public final class CheckTest {
    private static final Probe PROBE = Probe.roomy();

    public static void main(String[] args) {
        wordsAreCounted();
        quotes();
        operators();
        lists();
        commands();
        openGroups();
        longLines();
        checkRunsNothing();
        outsideRunsNothing();
        Probe.finish("CheckTest");
    }

    private static void inside(String line, int words) {
        PROBE.words(line, words);
    }

    private static void outside(String line) {
        PROBE.words(line, TreeShell.SYNTAX);
        PROBE.runs(line, TreeShell.SYNTAX, "", 0);
        Probe.due("typed() after " + line, PROBE.shell.typed(), 0);
    }

    private static void wordsAreCounted() {
        inside("", 0);
        inside("    ", 0);
        inside("a", 1);
        inside("  a  b   c ", 3);
        inside("a<b>c>>d e", 5);
        inside("a '' ''", 3);
        inside("(a b;c)|d&&!e||f", 6);
        inside("$? $?$? $", 3);
        inside("a.b/c-d=e,f\"g\\h*i#j{k}l[m]n~o`p@q%r^s:t+u?v", 1);
    }

    private static void quotes() {
        inside("''", 1);
        inside("''''", 1);
        inside("'a b'c' d'", 1);
        inside("a'b'c 'd'", 2);
        inside("'a;b&c|d<e>f(g)h!i'", 1);
        inside("a';'b", 1);
        inside("a';';b", 2);
        inside("' '", 1);
        outside("'");
        outside("a'");
        outside("a 'b c");
        outside("'a''");
        outside("a;'(b)");
    }

    private static void operators() {
        inside("a&&b", 2);
        inside("a||b", 2);
        inside("a|b", 2);
        inside("a>>b", 2);
        outside("&");
        outside("a&");
        outside("a&b");
        outside("a & b");
        outside("a& &b");
        outside("a&&&b");
        outside("a&&&&b");
        outside("a|||b");
        outside("a||||b");
        outside("a| |b");
        outside("a>>>b");
        outside("a> >b");
        outside("a<<b");
        outside("a<>b");
        outside("a;&b");
    }

    private static void lists() {
        inside("a;", 1);
        inside("a ; b ;", 2);
        inside("(a;);", 1);
        inside("(a;b;)", 2);
        inside("a;!b;", 2);
        outside(";");
        outside(";a");
        outside("a;;");
        outside("a;;b");
        outside("a&&");
        outside("a||");
        outside("&&a");
        outside("||a");
        outside("a&&;b");
        outside("a;&&b");
        outside("a&&||b");
        outside("a|;b");
        outside("(a&&)");
        outside("(;a)");
        outside("(a;;)");
        outside("a;|b");
    }

    private static void commands() {
        inside("!a", 1);
        inside("! a|b|c", 3);
        inside("a&&!b||!c", 3);
        inside("!(a)", 1);
        inside("!>f a", 2);
        inside("<a>b c>d e<f", 6);
        inside("(a)>b<c>>d", 4);
        inside("a|(b)|c", 3);
        inside("(a|b)>c|d", 4);
        inside("((a)>b)<c", 3);
        outside("!");
        outside("!!a");
        outside("a!b");
        outside("a !");
        outside("a|!b");
        outside("(!)");
        outside("|a");
        outside("a|");
        outside("a|>f");
        outside(">f");
        outside("<f>g");
        outside("a>");
        outside("a>;b");
        outside("a>(b)");
        outside("a>!b");
        outside(">f(a)");
        outside("(a)b");
        outside("(a)>b c");
        outside("(a)(b)");
        outside("a(b)");
        outside("a b(");
    }

    private static void openGroups() {
        inside("((((a))))", 1);
        inside("(a);(b);(c);(d);(e);(f)", 6);
        inside("((((a)));(((b))))", 2);
        inside("(((a)|(b)))|(c;(d;(e;(f))))", 6);
        inside("'(((((a'", 1);
        outside("(((((a)))))");
        outside("((((a;(b)))))");
        outside("((((a))));(((((b)))))");
        outside("(");
        outside(")");
        outside("()");
        outside("( )");
        outside("(a");
        outside("a)");
        outside("((a)");
        outside("(a))");
        outside("(a;(b);");
        outside(")a(");
        outside("(".repeat(64));
        outside(")".repeat(64));
    }

    private static void longLines() {
        inside("a ".repeat(32), 32);
        inside("a;".repeat(32), 32);
        inside("a|".repeat(31) + "a", 32);
        inside("a" + ">b".repeat(31), 32);
        inside("'' ".repeat(21), 21);
        inside("x".repeat(64), 1);
        outside("!".repeat(64));
        outside("'".repeat(63));
        inside("'".repeat(64), 1);
        inside(" ".repeat(64), 0);
        outside(">".repeat(64));
        outside(";".repeat(64));
        outside("a|".repeat(32));
    }

    private static void checkRunsNothing() {
        Probe probe = Probe.roomy();
        probe.runs("cat nosuch;echo x|cat", 0, "x\n", 3);
        probe.typeAll("mkdir d;cd d;echo y>f;nosuch");
        Probe.due("check()", probe.shell.check(), 8);
        Probe.due("check() again", probe.shell.check(), 8);
        probe.tree(0, 0, 0);
        Probe.due("status()", probe.shell.status(), 0);
        Probe.due("output", probe.output(), "x\n");
        Probe.due("ran()", probe.shell.ran(), 3);
        Probe.due("enter()", probe.shell.enter(), 127);
        probe.tree(2, 2, 1);
    }

    private static void outsideRunsNothing() {
        Probe probe = Probe.roomy();
        probe.runs("echo x;nosuch", 127, "x\n", 2);
        probe.typeAll("mkdir d;(");
        Probe.due("check()", probe.shell.check(), -1);
        Probe.due("output after check()", probe.output(), "x\n");
        Probe.due("enter()", probe.shell.enter(), -1);
        Probe.due("status()", probe.shell.status(), 127);
        Probe.due("length()", probe.shell.length(), 0);
        Probe.due("out(0)", probe.shell.out(0), 0L);
        Probe.due("ran()", probe.shell.ran(), 0);
        probe.tree(0, 0, 0);
        probe.runs("echo $?", 0, "127\n");
    }
}
