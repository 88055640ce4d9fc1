/** Promise 1: the capacities with their bounds, and a new object's state. */
public final class ObjectTest {
    public static void main(String[] args) {
        nodesAreBounded();
        charsAreBounded();
        pipeIsBounded();
        capacitiesAreToldApart();
        lineAndOutputAreEmpty();
        treeIsEmpty();
        statusIsZero();
        objectsAreApart();
        objectLastsForItsCalls();
        Probe.finish("ObjectTest");
    }

    private static void nodesAreBounded() {
        Probe.sentence("NODES is nodes, but 1 if that is less");
        holdsNodes(1, 1);
        holdsNodes(0, 1);
        holdsNodes(-1, 1);
        holdsNodes(Integer.MIN_VALUE, 1);
        Probe.sentence("NODES is nodes, but .. 12 if that is more");
        holdsNodes(2, 2);
        holdsNodes(11, 11);
        holdsNodes(12, 12);
        holdsNodes(13, 12);
        holdsNodes(Integer.MAX_VALUE, 12);
    }

    private static void holdsNodes(int given, int due) {
        Probe probe = new Probe(given, 160, 96);
        for (int i = 0; i < due; i++) {
            probe.does("mkdir d" + i);
        }
        probe.runs("mkdir more", 100, "");
        probe.runs("echo>more", 100, "");
        probe.tree(due, 0, 0);
    }

    private static void charsAreBounded() {
        Probe.sentence("CHARS is chars, but 0 if that is less");
        holdsChars(0, 0);
        holdsChars(-1, 0);
        holdsChars(Integer.MIN_VALUE, 0);
        Probe.sentence("CHARS is chars, but .. 160 if that is more");
        holdsChars(1, 1);
        holdsChars(7, 7);
        holdsChars(159, 159);
        holdsChars(160, 160);
        holdsChars(161, 160);
        holdsChars(Integer.MAX_VALUE, 160);
    }

    private static void holdsChars(int given, int due) {
        Probe probe = new Probe(12, given, 96);
        for (int left = due; left > 0; left -= 40) {
            probe.does("echo -n " + "x".repeat(Math.min(left, 40)) + ">>f");
        }
        probe.does("echo -n>>f");
        probe.runs("echo -n x>>f", 100, "");
        Probe.due("chars() of " + given, probe.chars(), due);
    }

    private static void pipeIsBounded() {
        Probe.sentence("PIPE is pipe, but 8 if that is less");
        holdsPipe(8, 8);
        holdsPipe(7, 8);
        holdsPipe(0, 8);
        holdsPipe(-1, 8);
        holdsPipe(Integer.MIN_VALUE, 8);
        Probe.sentence("PIPE is pipe, but .. 96 if that is more");
        holdsPipe(9, 9);
        holdsPipe(40, 40);
        holdsPipe(95, 95);
        holdsPipe(96, 96);
        holdsPipe(97, 96);
        holdsPipe(Integer.MAX_VALUE, 96);
    }

    private static void holdsPipe(int given, int due) {
        Probe probe = new Probe(12, 160, given);
        String half = "x".repeat(due / 2 - 1) + "\n";
        String rest = due % 2 == 1 ? "y" : "";
        probe.runs("echo " + half.trim() + ">f;cat f f", 0, half + half);
        probe.runs("cat f f;echo -n " + rest, 0, half + half + rest);
        probe.runs("cat f f;echo -n z" + rest, 100, half + half);
        probe.does("echo -n z" + rest + ">g");
        probe.runs("cat f g f", 100, "");
        Probe.due("length() for a pipe of " + given, probe.length(), 0);
    }

    private static void capacitiesAreToldApart() {
        Probe.sentence("`TreeShell(int nodes, int chars, int pipe)`");
        Probe probe = new Probe(2, 9, 11);
        probe.runs("mkdir a;mkdir b;mkdir c", 100, "", 3);
        probe.runs("echo -n 12345678901", 0, "12345678901");
        probe.runs("echo -n 123456789012", 100, "");
        Probe other = new Probe(9, 11, 9);
        other.does("echo 12345>f;echo 1234>g");
        other.runs("echo -n x>>f", 100, "");
        other.tree(2, 11, 0);
    }

    private static void lineAndOutputAreEmpty() {
        Probe.sentence("The line that is being typed is empty, so is the OUTPUT.");
        Probe probe = new Probe(5, 50, 50);
        Probe.due("length()", probe.length(), 0);
        Probe.due("out(0)", probe.out(0), 0L);
        Probe.due("typed()", probe.typed(), 0);
        Probe.due("check()", probe.check(), 0);
        Probe.due("enter()", probe.enter(), 0);
        Probe.due("length() after enter()", probe.length(), 0);
        Probe.due("ran() after enter()", probe.ran(), 0);
    }

    private static void treeIsEmpty() {
        Probe.sentence("HERE is a directory, at first the root, which is empty at first.");
        Probe probe = new Probe(5, 50, 50);
        probe.tree(0, 0, 0);
        probe.runs("ls", 0, "");
        probe.runs("ls /", 0, "");
        probe.does("mkdir d");
        probe.runs("ls /", 0, "d/\n");
    }

    private static void statusIsZero() {
        Probe.sentence("STATUS is the status of the pipeline that ended last (0 at first;");
        Probe probe = new Probe(5, 50, 50);
        Probe.due("status()", probe.status(), 0);
        probe.runs("echo $?", 0, "0\n");
        new Probe(5, 50, 50).runs("(echo $?)", 0, "0\n");
    }

    private static void objectsAreApart() {
        Probe.sentence("Promise 1: A new object");
        Probe one = Probe.roomy();
        Probe other = Probe.roomy();
        one.runs("mkdir d;cd d;echo x>f;cat f;nosuch", 127, "x\n");
        one.typeAll("echo");
        other.tree(0, 0, 0);
        Probe.due("typed() of the other", other.typed(), 0);
        Probe.due("length() of the other", other.length(), 0);
        Probe.due("status() of the other", other.status(), 0);
        other.runs("cat d/f", 1, "");
        Probe.due("status() of the one", one.status(), 127);
        Probe.due("typed() of the one", one.typed(), 4);
    }

    private static void objectLastsForItsCalls() {
        Probe.sentence("An object is used for at most 512 calls after it has been made");
        Probe probe = Probe.roomy();
        int calls = 0;
        for (int line = 0; calls < 504; line++) {
            probe.type(Probe.pack(line % 2 == 0 ? "echo a>f" : "cat f|wc"));
            probe.type(Probe.pack(line % 2 == 0 ? ";mkdir d" : ";echo $?"));
            Probe.due("enter(), call " + (calls + 3), probe.enter(), line > 0 && line % 2 == 0 ? 1 : 0);
            calls += 3;
        }
        Probe.due("calls", calls, 504);
        probe.type(Probe.pack("cd d;(cd"));
        probe.type(Probe.pack(" ..;cat "));
        probe.type(Probe.pack("f);wc f"));
        Probe.due("call 508", probe.enter(), 1);
        Probe.due("call 509", probe.out(0), Probe.pack("a\n") << 48);
        Probe.due("call 510", probe.depth(), 1);
        Probe.due("call 511", probe.chars(), 2);
        Probe.due("call 512", probe.nodes(), 2);
    }
}
