/** Promise 5 and the grammar, and what enter() answers to lines outside of it. */
public final class CheckTest {
    public static void main(String[] args) {
        wordsAreCounted();
        redirectionsWordsAreCounted();
        emptyWordsAreCounted();
        outsideIsSyntax();
        checkRunsNothing();
        spacesPartWords();
        quotes();
        openQuotes();
        operatorsAreTheLongerOnes();
        singleAmpersands();
        wordsGoOnToSpacesAndOperators();
        emptyWords();
        nothingAndLists();
        andors();
        pipelines();
        simpleCommands();
        groups();
        redirections();
        openGroups();
        longLines();
        nothingToRun();
        outsideRunsNothing();
        Probe.finish("CheckTest");
    }

    private static void inside(String line, int words) {
        Probe probe = Probe.roomy();
        Probe.due("type " + line, probe.typeAll(line), true);
        Probe.due("check " + line, probe.check(), words);
        Probe.due("enter() of " + line + " is SYNTAX", probe.enter() == TreeShell.SYNTAX, false);
    }

    private static void outside(String line) {
        Probe probe = Probe.roomy();
        Probe.due("type " + line, probe.typeAll(line), true);
        Probe.due("check " + line, probe.check(), TreeShell.SYNTAX);
        probe.wipe();
        probe.runs(line, TreeShell.SYNTAX, "", 0);
        Probe.due("typed() after " + line, probe.typed(), 0);
    }

    private static void wordsAreCounted() {
        Probe.sentence("How many words the line that is being typed has");
        inside("", 0);
        inside("    ", 0);
        inside("a", 1);
        inside("  a  b   c ", 3);
        inside("(a b;c)|d&&!e||f", 6);
        inside("$? $?$? $", 3);
        inside("a ".repeat(32), 32);
        Probe probe = Probe.roomy();
        probe.typeAll("a b");
        Probe.due("check()", probe.check(), 2);
        probe.typeAll("c d");
        Probe.due("check() of the longer line", probe.check(), 3);
        probe.typeAll("'");
        Probe.due("check() of an open quote", probe.check(), -1);
        probe.typeAll("'");
        Probe.due("check() of the quote closed", probe.check(), 3);
        probe.wipe();
        Probe.due("check() after wipe()", probe.check(), 0);
    }

    private static void redirectionsWordsAreCounted() {
        Probe.sentence("(those of redirections, and empty ones in quotes, too)");
        inside("a<b", 2);
        inside("a>b", 2);
        inside("a>>b", 2);
        inside("<b a", 2);
        inside("a<b>c>>d e", 5);
        inside("(a)>b<c>>d", 4);
    }

    private static void emptyWordsAreCounted() {
        Probe.sentence("empty ones in quotes, too");
        inside("''", 1);
        inside("a '' ''", 3);
        inside("a>''", 2);
        inside("''<''", 2);
        inside("'';''|''", 3);
        inside("'' ".repeat(21), 21);
    }

    private static void outsideIsSyntax() {
        Probe.sentence("SYNTAX if it is outside of the grammar. Nothing is run.");
        outside("(");
        outside("echo a;)");
        outside("echo a>");
        outside("echo '");
        outside("echo&");
    }

    private static void checkRunsNothing() {
        Probe.sentence("Nothing is run.");
        Probe probe = Probe.roomy();
        probe.runs("cat nosuch;echo x|cat;cat y", 1, "x\n", 4);
        for (String line : new String[] {"mkdir d;cd d;echo y>f;nosuch", "mkdir d;cd d;echo y>f;nosuch;("}) {
            probe.typeAll(line);
            Probe.due("check()", probe.check(), line.endsWith("(") ? -1 : 8);
            Probe.due("check() again", probe.check(), line.endsWith("(") ? -1 : 8);
            probe.tree(0, 0, 0);
            Probe.due("status()", probe.status(), 1);
            Probe.due("output", probe.output(), "x\n");
            Probe.due("ran()", probe.ran(), 4);
            Probe.due("typed()", probe.typed(), line.length());
            probe.wipe();
        }
        probe.typeAll("mkdir d;cd d;echo y>f;nosuch");
        probe.check();
        Probe.due("enter()", probe.enter(), 127);
        probe.tree(2, 2, 1);
    }

    private static void spacesPartWords() {
        Probe.sentence("Outside of quotes a space parts words and is nothing else");
        inside(" a ", 1);
        inside("a b", 2);
        inside("a    b", 2);
        inside(" ! ( a ; b ) > c | d ", 4);
        inside("a ;b; c ;", 3);
        inside("! a", 1);
        inside("a < b", 2);
        outside("a & & b");
        outside("a | | b");
        outside("a > > b");
    }

    private static void quotes() {
        Probe.sentence("a ' begins a quoted piece, which goes on to the next ' (all characters between are plain");
        inside("'a b'c' d'", 1);
        inside("a'b'c 'd'", 2);
        inside("'a;b&c|d<e>f(g)h!i'", 1);
        inside("a';'b", 1);
        inside("a';';b", 2);
        inside("' '", 1);
        inside("'&'", 1);
        inside("'(((((a'", 1);
        inside("''''", 1);
        inside("'".repeat(64), 1);
    }

    private static void openQuotes() {
        Probe.sentence("without a next ' the line is outside of the grammar");
        outside("'");
        outside("a'");
        outside("a 'b c");
        outside("'a''");
        outside("a;'(b)");
        outside("a ' ");
        outside("'".repeat(63));
        outside("x".repeat(63) + "'");
    }

    private static void operatorsAreTheLongerOnes() {
        Probe.sentence("of two that could be read at a place, the longer one");
        inside("a&&b", 2);
        inside("a||b", 2);
        inside("a>>b", 2);
        inside("a|b", 2);
        inside("a>b", 2);
        outside("a|||b");
        outside("a||||b");
        outside("a>>>b");
        outside("a>>>>b");
        outside("a> >b");
        outside("a| |b");
        outside("a<<b");
        outside("a<>b");
        inside("a||!b", 2);
        inside("a|(b)", 2);
    }

    private static void singleAmpersands() {
        Probe.sentence("a single & is outside of the grammar");
        outside("&");
        outside("a&");
        outside("a &");
        outside("&a");
        outside("a&b");
        outside("a & b");
        outside("a& &b");
        outside("a&&&b");
        outside("a&'&'b");
        outside("a;&b");
        outside("x".repeat(63) + "&");
        inside("a'&'b", 1);
    }

    private static void wordsGoOnToSpacesAndOperators() {
        Probe.sentence("characters up to the next space or operator are one WORD, quoted pieces and plain ones together");
        inside("a.b/c-d=e,f\"g\\h*i#j{k}l[m]n~o`p@q%r^s:t+u?v", 1);
        inside("a'b'c'd'", 1);
        inside("a'b'<'c'd", 2);
        inside("a;b", 2);
        inside("a&&b", 2);
        inside("a|b", 2);
        inside("a>b", 2);
        inside("x".repeat(64), 1);
        outside("a(b)");
        outside("a!b");
        outside("a'b'(");
    }

    private static void emptyWords() {
        Probe.sentence("('' alone is an empty word)");
        inside("''", 1);
        inside("'' ''", 2);
        inside("''''", 1);
        inside("''a''", 1);
        inside("a>''", 2);
        Probe probe = Probe.roomy();
        probe.runs("echo '' a ''''", 0, " a \n");
        probe.runs("''", 127, "", 1);
        probe.runs("'' echo", 127, "", 1);
        probe.runs("ls ''", 0, "");
        probe.runs("echo a|grep ''", 0, "a\n");
    }

    private static void nothingAndLists() {
        Probe.sentence("line = nothing | list list = andor { ; andor } [ ; ]");
        inside("", 0);
        inside(" ".repeat(64), 0);
        inside("a;", 1);
        inside("a ; b ;", 2);
        inside("(a;);", 1);
        inside("(a;b;)", 2);
        inside("a;!b;", 2);
        outside(";");
        outside(" ; ");
        outside(";a");
        outside("a;;");
        outside("a; ;");
        outside("a;;b");
        outside("(;a)");
        outside("(a;;)");
        outside("(;)");
    }

    private static void andors() {
        Probe.sentence("andor = pipeline { && pipeline | || pipeline }");
        inside("a&&b||c&&d", 4);
        inside("a||b;c&&d", 4);
        outside("a&&");
        outside("a||");
        outside("&&a");
        outside("||a");
        outside("a&&;b");
        outside("a;&&b");
        outside("a&&||b");
        outside("a&& &&b");
        outside("(a&&)");
        outside("(||a)");
    }

    private static void pipelines() {
        Probe.sentence("pipeline = [ ! ] command { | command }");
        inside("!a", 1);
        inside("! a|b|c", 3);
        inside("a&&!b||!c", 3);
        inside("!(a)", 1);
        inside("!>f a", 2);
        inside("a|(b)|c", 3);
        outside("!");
        outside("!!a");
        outside("! !a");
        outside("a!");
        outside("a|!b");
        outside("(!)");
        outside("!;a");
        outside("|a");
        outside("a|");
        outside("a|;b");
        outside("a;|b");
    }

    private static void simpleCommands() {
        Probe.sentence("command = { redirection } word { word | redirection }");
        inside("<a b", 2);
        inside("<a>b c>d e<f", 6);
        inside("a>b c", 3);
        outside(">f");
        outside("<f>g");
        outside("a|>f");
        outside(">f|a");
        outside("a;>f");
        outside(">f(a)");
        outside("a b(");
    }

    private static void groups() {
        Probe.sentence("or ( list ) { redirection }");
        inside("(a)", 1);
        inside("(a)>b<c", 3);
        inside("((a)>b)<c", 3);
        inside("(a|b)>c|d", 4);
        outside("()");
        outside("( )");
        outside("(");
        outside(")");
        outside("(a");
        outside("a)");
        outside("((a)");
        outside("(a))");
        outside("(a;(b);");
        outside(")a(");
        outside("(a)b");
        outside("(a)''");
        outside("(a)>b c");
        outside("(a)(b)");
        outside("a(b)");
    }

    private static void redirections() {
        Probe.sentence("redirection = < word | > word | >> word");
        inside("a" + ">b".repeat(31), 32);
        inside("a<b<c", 3);
        inside("a>'b;c'", 2);
        outside("a>");
        outside("a<");
        outside("a>>");
        outside("a>;b");
        outside("a>(b)");
        outside("a>!b");
        outside("a>|b");
        outside("a>>b>");
        outside("(a)>");
    }

    private static void openGroups() {
        Probe.sentence("A line with more than four ( open at once is outside of the grammar too.");
        inside("((((a))))", 1);
        inside("(a);(b);(c);(d);(e);(f)", 6);
        inside("((((a)));(((b))))", 2);
        inside("(((a)|(b)))|(c;(d;(e;(f))))", 6);
        inside("((((a))))|((((b))))", 2);
        outside("(((((a)))))");
        outside("((((a;(b)))))");
        outside("((((a))));(((((b)))))");
        outside("((((((a))))))");
        outside("(".repeat(31) + "a" + ")".repeat(31));
        outside("(".repeat(64));
        outside(")".repeat(64));
    }

    private static void longLines() {
        Probe.sentence("({ } any number of times, [ ] once or not at all.)");
        inside("a;".repeat(32), 32);
        inside("a|".repeat(31) + "a", 32);
        inside("a||".repeat(21) + "a", 22);
        inside("a" + ">>b".repeat(21), 22);
        inside("<b".repeat(31) + " a", 32);
        inside("(a)" + "<b".repeat(30), 31);
        outside("!".repeat(64));
        outside(">".repeat(64));
        outside(";".repeat(64));
        outside("a|".repeat(32));
    }

    private static void nothingToRun() {
        Probe.sentence("of nothing, or spaces alone, nothing is run: STATUS stays, OUTPUT is empty");
        for (String nothing : new String[] {"", " ", "   ", " ".repeat(64)}) {
            Probe probe = Probe.roomy();
            probe.runs(nothing, 0, "", 0);
            probe.runs("mkdir d;cd d;echo x>f;cat f;nosuch", 127, "x\n", 5);
            probe.runs(nothing, 127, "", 0);
            Probe.due("status()", probe.status(), 127);
            Probe.due("out(0)", probe.out(0), 0L);
            probe.tree(2, 2, 1);
        }
    }

    private static void outsideRunsNothing() {
        Probe.sentence("SYNTAX if it is outside of the grammar: nothing is run then, STATUS stays, OUTPUT is empty.");
        for (String end : new String[] {"(", ")", "&", "'", "&&", "|", ">", "!", ";;", ";(((((a)))))"}) {
            Probe probe = Probe.roomy();
            probe.runs("echo x;nosuch", 127, "x\n", 2);
            probe.typeAll("mkdir d;cd d;echo y>f" + end);
            Probe.due("check()", probe.check(), -1);
            Probe.due("output after check()", probe.output(), "x\n");
            Probe.due("enter() of " + end, probe.enter(), -1);
            Probe.due("status()", probe.status(), 127);
            Probe.due("length()", probe.length(), 0);
            Probe.due("out(0)", probe.out(0), 0L);
            Probe.due("ran()", probe.ran(), 0);
            Probe.due("typed()", probe.typed(), 0);
            probe.tree(0, 0, 0);
            probe.runs("echo $?", 0, "127\n");
        }
    }
}
