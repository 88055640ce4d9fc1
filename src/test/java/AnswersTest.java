/** Promises 7 to 13: what can be asked after a line. */
public final class AnswersTest {
    public static void main(String[] args) {
        status();
        output();
        outIsZeroElsewhere();
        ran();
        nodesAndChars();
        depth();
        Probe.finish("AnswersTest");
    }

    private static void status() {
        Probe probe = new Probe(1, 10, 8);
        String[] lines = {"echo", "cat x", "wc x y", "nosuch", "echo 12345678", "!nosuch", "!echo"};
        int[] due = {0, 1, 2, 127, 100, 0, 1};
        for (int i = 0; i < lines.length; i++) {
            probe.typeAll(lines[i]);
            Probe.due("enter() of " + lines[i], probe.shell.enter(), due[i]);
            Probe.due("status() after " + lines[i], probe.shell.status(), due[i]);
            probe.typeAll("(a");
            Probe.due("enter() of (a", probe.shell.enter(), -1);
            Probe.due("status() after (a", probe.shell.status(), due[i]);
        }
    }

    private static void output() {
        Probe probe = Probe.roomy();
        probe.does("echo 12345678901234567890123456789012345678901234567>f");
        probe.runs("cat f f", 0, "12345678901234567890123456789012345678901234567\n".repeat(2));
        Probe.due("length()", probe.shell.length(), 96);
        Probe.due("out(0)", probe.shell.out(0), Probe.pack("12345678"));
        Probe.due("out(5)", probe.shell.out(5), Probe.pack("1234567\n"));
        Probe.due("out(11)", probe.shell.out(11), Probe.pack("1234567\n"));
        Probe.due("out(12)", probe.shell.out(12), 0L);
        probe.runs("echo abcdefgh", 0, "abcdefgh\n");
        Probe.due("out(1)", probe.shell.out(1), 0x0a00000000000000L);
        Probe.due("out(2)", probe.shell.out(2), 0L);
        probe.runs("echo -n abcdefgh", 0, "abcdefgh");
        Probe.due("out(0)", probe.shell.out(0), Probe.pack("abcdefgh"));
        Probe.due("out(1)", probe.shell.out(1), 0L);
        probe.typeAll("echo x");
        Probe.due("output while typing", probe.output(), "abcdefgh");
        probe.shell.wipe();
        probe.runs("", 0, "");
        Probe.due("out(0)", probe.shell.out(0), 0L);
        probe.runs("echo ~", 0, "~\n");
        Probe.due("out(0)", probe.shell.out(0), 0x7e0a000000000000L);
    }

    private static void outIsZeroElsewhere() {
        Probe probe = Probe.roomy();
        probe.runs("echo abcdefghijklmnopqrstuvwxyz", 0, "abcdefghijklmnopqrstuvwxyz\n");
        int[] places = {
            -1, -2, -8, 4, 5, 12, 13, 1000, 1 << 28, 1 << 29, 1 << 30, (1 << 29) + 1, -(1 << 29),
            Integer.MAX_VALUE, Integer.MIN_VALUE, Integer.MIN_VALUE + 1,
        };
        for (int place : places) {
            Probe.due("out(" + place + ")", probe.shell.out(place), 0L);
        }
        Probe.due("out(3)", probe.shell.out(3), Probe.pack("yz\n") << 40);
    }

    private static void ran() {
        Probe probe = new Probe(1, 10, 8);
        Probe.due("ran() at first", probe.shell.ran(), 0);
        probe.runs("echo;echo|cat", 0, "\n\n", 3);
        probe.typeAll("echo");
        Probe.due("ran() while typing", probe.shell.ran(), 3);
        probe.shell.check();
        Probe.due("ran() after check()", probe.shell.ran(), 3);
        probe.shell.wipe();
        probe.runs(";", -1, "", 0);
        probe.runs("echo>f;echo>g;echo", 100, "", 1);
        probe.runs("mkdir d;echo", 100, "", 1);
        probe.runs("echo 12345678;echo", 100, "", 1);
        probe.runs("  ", 100, "", 0);
    }

    private static void nodesAndChars() {
        Probe probe = Probe.roomy();
        probe.tree(0, 0, 0);
        probe.does("mkdir a;mkdir a/b;echo 12>a/b/c");
        probe.tree(3, 3, 0);
        probe.does("echo 345>>a/b/c;echo 6>d");
        probe.tree(4, 9, 0);
        probe.does("echo -n>d");
        probe.tree(4, 7, 0);
        probe.runs("echo 1234567890", 0, "1234567890\n");
        probe.tree(4, 7, 0);
        probe.runs("nosuch>e", 127, "");
        probe.tree(5, 7, 0);
    }

    private static void depth() {
        Probe probe = Probe.roomy();
        for (int deep = 0; deep < 12; deep++) {
            probe.tree(deep, 0, deep);
            probe.does("mkdir d;cd d");
        }
        probe.tree(12, 0, 12);
        probe.runs("mkdir d", 100, "");
        probe.does("cd ../..");
        probe.tree(12, 0, 10);
        probe.does("cd /d/d");
        probe.tree(12, 0, 2);
        probe.does("cd ../../../..");
        probe.tree(12, 0, 0);
    }
}
