/** Promise 1: the capacities with their bounds, and a new object's state. */
public final class ObjectTest {
    public static void main(String[] args) {
        newObject();
        nodesAreBounded();
        charsAreBounded();
        pipeIsBounded();
        objectsAreApart();
        Probe.finish("ObjectTest");
    }

    private static void newObject() {
        Probe probe = new Probe(5, 50, 50);
        Probe.due("typed()", probe.shell.typed(), 0);
        Probe.due("check()", probe.shell.check(), 0);
        Probe.due("status()", probe.shell.status(), 0);
        Probe.due("length()", probe.shell.length(), 0);
        Probe.due("out(0)", probe.shell.out(0), 0L);
        Probe.due("ran()", probe.shell.ran(), 0);
        probe.tree(0, 0, 0);
        probe.runs("ls", 0, "");
        probe.runs("echo $?", 0, "0\n");
    }

    private static void nodesAreBounded() {
        int[][] wantedAndDue = {
            {Integer.MIN_VALUE, 1}, {-1, 1}, {0, 1}, {1, 1}, {2, 2}, {11, 11}, {12, 12}, {13, 12},
            {Integer.MAX_VALUE, 12},
        };
        for (int[] pair : wantedAndDue) {
            Probe probe = new Probe(pair[0], 160, 96);
            for (int i = 0; i < pair[1]; i++) {
                probe.does("mkdir d" + i);
            }
            probe.runs("mkdir more", 100, "");
            probe.runs("echo>more", 100, "");
            probe.tree(pair[1], 0, 0);
        }
    }

    private static void charsAreBounded() {
        int[][] wantedAndDue = {
            {Integer.MIN_VALUE, 0}, {-1, 0}, {0, 0}, {1, 1}, {7, 7}, {159, 159}, {160, 160},
            {161, 160}, {Integer.MAX_VALUE, 160},
        };
        for (int[] pair : wantedAndDue) {
            Probe probe = new Probe(12, pair[0], 96);
            for (int left = pair[1]; left > 0; left -= 40) {
                probe.does("echo -n " + "x".repeat(Math.min(left, 40)) + ">>f");
            }
            probe.does("echo -n>>f");
            probe.runs("echo -n x>>f", 100, "");
            Probe.due("chars() of " + pair[0], probe.shell.chars(), pair[1]);
        }
    }

    private static void pipeIsBounded() {
        int[][] wantedAndDue = {
            {Integer.MIN_VALUE, 8}, {0, 8}, {7, 8}, {8, 8}, {9, 9}, {40, 40}, {95, 95}, {96, 96},
            {97, 96}, {Integer.MAX_VALUE, 96},
        };
        for (int[] pair : wantedAndDue) {
            Probe probe = new Probe(12, 160, pair[0]);
            int each = pair[1] / 2;
            String first = "x".repeat(each - 1);
            String line = "echo " + first + ">f;cat f f";
            probe.runs(line, 0, (first + "\n").repeat(2));
            String rest = pair[1] % 2 == 1 ? "y" : "";
            probe.runs("cat f f;echo -n " + rest, 0, (first + "\n").repeat(2) + rest);
            probe.runs("cat f f;echo -n z" + rest, 100, (first + "\n").repeat(2));
            probe.does("echo -n z" + rest + ">g");
            probe.runs("cat f g f", 100, "");
        }
    }

    private static void objectsAreApart() {
        Probe one = Probe.roomy();
        Probe other = Probe.roomy();
        one.does("mkdir d;cd d;echo x>f");
        one.typeAll("echo");
        other.tree(0, 0, 0);
        Probe.due("typed() of the other", other.shell.typed(), 0);
        other.runs("cat d/f", 1, "");
        Probe.due("status() of the one", one.shell.status(), 0);
    }
}
