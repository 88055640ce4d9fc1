/** Promise 6, RUNNING: the input that a list shares, and who takes it. */
public final class InputTest {
    public static void main(String[] args) {
        whatIsReadIsGone();
        allIsTaken();
        statusAheadOfReading();
        grepThatFindsNothing();
        whoDoesNotRead();
        redirectedInput();
        Probe.finish("InputTest");
    }

    private static void whatIsReadIsGone() {
        Probe.sentence("They and all in them share its input: what is read is gone");
        Probe probe = Probe.roomy();
        probe.runs("echo a|(cat;wc)", 0, "a\n0 0 0\n");
        probe.runs("echo a|(wc;cat;wc)", 0, "1 1 2\n0 0 0\n");
        probe.runs("echo a|(grep a;cat;wc)", 0, "a\n0 0 0\n");
        probe.runs("echo a|(cat&&cat||cat;cat)", 0, "a\n");
        probe.runs("echo a|((cat);cat;echo b)", 0, "a\nb\n");
        probe.runs("echo a|(((cat));((cat));cat)", 0, "a\n");
        probe.runs("echo a|(cat|wc;cat)", 0, "1 1 2\n");
        probe.runs("echo a|(echo b|cat;cat)", 0, "b\na\n");
        probe.runs("echo a|(echo b|(cat;cat);cat)", 0, "b\na\n");
        probe.runs("echo a|(((echo b|cat));((cat));cat)", 0, "b\na\n");
        probe.runs("echo a|(nosuch&&cat||wc;wc)", 0, "1 1 2\n0 0 0\n");
        probe.runs("echo a|(cat>g;cat);cat g", 0, "a\n");
        probe.runs("echo a|(cat|nosuch;cat)", 0, "");
    }

    private static void allIsTaken() {
        Probe.sentence("whoever reads takes all of it");
        Probe probe = Probe.roomy();
        probe.does("(echo ab;echo;echo -n cd)>f");
        probe.runs("(cat;wc)<f", 0, "ab\n\ncd0 0 0\n");
        probe.runs("(wc;cat)<f", 0, "2 2 6\n");
        probe.runs("(grep a;cat)<f", 0, "ab\n");
        probe.runs("(grep -v a;cat)<f", 0, "\ncd\n");
        probe.runs("cat f|(grep ^$;wc)", 0, "\n0 0 0\n");
    }

    private static void statusAheadOfReading() {
        Probe.sentence("a tool that ends with a status ahead of reading takes nothing");
        String[] early = {
            "wc x y", "wc x", "wc /", "grep", "grep -v", "grep a b c", "grep -v a b c", "grep a b", "grep a /", "cat x",
            "cat /", "cat f x", "ls x", "ls x y", "mkdir", "mkdir /", "mkdir a b", "cd x", "cd x y", "cd f", "nosuch", "''",
            "cat<nosuch", "wc</", "cat>/", "grep a>x/y", "(cat)<nosuch",
        };
        for (String tool : early) {
            Probe probe = Probe.roomy();
            probe.does("echo f>f");
            probe.runs("echo a|(" + tool + ";cat)", 0, "a\n");
            probe.runs("echo a|((" + tool + ")||wc)", 0, "1 1 2\n");
        }
    }

    private static void grepThatFindsNothing() {
        Probe.sentence("a grep that finds nothing has taken it");
        Probe probe = Probe.roomy();
        probe.runs("echo a|(grep b;cat;echo $?)", 0, "0\n");
        probe.runs("echo a|(grep b||cat;echo c)", 0, "c\n");
        probe.runs("echo a|(grep -v a||wc)", 0, "0 0 0\n");
        probe.runs("echo a|(grep b|cat;wc)", 0, "0 0 0\n");
    }

    private static void whoDoesNotRead() {
        Probe.sentence("without it the tool reads its input");
        Probe probe = Probe.roomy();
        probe.does("echo f>f;mkdir d");
        probe.runs("echo a|(cat f;wc f;grep f f;cat)", 0, "f\n1 1 2\nf\na\n");
        probe.runs("echo a|(echo b;ls;ls d;cd d;ls ..;mkdir e;cat)", 0, "b\nd/\nf\nd/\nf\na\n");
        probe.runs("echo a|(grep x f;cat)", 0, "a\n");
        probe.runs("echo a|(grep -v f f;cat)", 0, "a\n");
    }

    private static void redirectedInput() {
        Probe.sentence("runs the list with its own input");
        Probe probe = Probe.roomy();
        probe.does("echo f>f;cat>g");
        probe.runs("(cat;cat)<f", 0, "f\n");
        probe.runs("(echo b|cat;cat)<f", 0, "b\nf\n");
        probe.runs("((cat;cat)<f;cat)<f", 0, "f\nf\n");
        probe.runs("echo a|(cat<f;cat)", 0, "f\na\n");
        probe.runs("echo a|(cat<g;cat)", 0, "a\n");
        probe.runs("echo a|((cat;cat)<f;cat)", 0, "f\na\n");
        probe.runs("(cat<f;cat<f;cat)<g", 0, "f\nf\n");
    }
}
