import java.lang.management.ManagementFactory;

/**
 * What a run makes stays in one room of 600,000 objects and 7.3 million elements: the constructor
 * and 512 of the dearest calls must make little, and no call may make anything but a new file.
 */
public final class RoomTest {
    private static final String[] LINES = {
        "echo a|(cat;echo b|(cat;echo c|(cat;echo d|(cat|cat;wc))))",
        "echo abc>f;cat<f>g;cat g f|grep -v x|grep ^a|wc>h;ls;cd d;cd ..",
        "a;b;c;d;e;f;g;h;i;j;k;l;m;n;o;p;q;r;s;t;u;v;w;x;y;z;$?;!1;2;3",
        "echo $?$?$?$?$?$?$?$?$?$?$?$?$?$?$?$?$?$?$?$?$?$?$?$?$?$?$?$?",
        "mkdir d;ls /;ls d/..;wc f;grep . f;cat f nosuch;(((((",
        "echo 'not closed", "mkdir d/d/d||mkdir /||mkdir nosuch/a||mkdir d",
    };

    public static void main(String[] args) {
        long forObject = bytesFor(RoomTest::makeObject);
        Probe.due("an object takes " + forObject + " bytes: under 16,000", forObject < 16000, true);
        noneFor("lines in a tree with room", new TreeShell(12, 160, 96));
        noneFor("lines in a tree without room", new TreeShell(1, 0, 8));
        Probe.finish("RoomTest");
    }

    private static void noneFor(String what, TreeShell shell) {
        runAll(shell, 1);
        Probe.due(what + ": bytes for calls that make no node", bytesFor(() -> runAll(shell, 40)), 0L);
    }

    private static void makeObject() {
        if (new TreeShell(12, 160, 96).typed() != 0) {
            throw new IllegalStateException();
        }
    }

    private static void runAll(TreeShell shell, int times) {
        for (int time = 0; time < times; time++) {
            for (String line : LINES) {
                for (int i = 0; i < line.length(); i++) {
                    shell.type(line.charAt(i));
                }
                shell.check();
                shell.enter();
                shell.out(shell.length() / 8);
                shell.type(0xffL);
                shell.wipe();
            }
            shell.depth();
        }
    }

    /** The least of several tries: what the machine itself makes beside must not count. */
    private static long bytesFor(Runnable work) {
        com.sun.management.ThreadMXBean threads =
            (com.sun.management.ThreadMXBean) ManagementFactory.getThreadMXBean();
        long least = Long.MAX_VALUE;
        for (int i = 0; i < 20; i++) {
            long before = threads.getCurrentThreadAllocatedBytes();
            long empty = threads.getCurrentThreadAllocatedBytes() - before;
            before = threads.getCurrentThreadAllocatedBytes();
            work.run();
            least = Math.min(least, threads.getCurrentThreadAllocatedBytes() - before - empty);
        }
        return least;
    }
}
