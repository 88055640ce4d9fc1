/** Promises 2, 3 and 4: the line that is being typed. */
public final class LineTest {
    public static void main(String[] args) {
        bytesAreTakenHighestFirst();
        wrongBytesAreRefused();
        lineIsBounded();
        wipeEmpties();
        enterEmpties();
        Probe.finish("LineTest");
    }

    private static void bytesAreTakenHighestFirst() {
        Probe probe = Probe.roomy();
        Probe.due("type(0)", probe.shell.type(0), true);
        Probe.due("typed()", probe.shell.typed(), 0);
        Probe.due("type e..ch", probe.shell.type(0x6500000000006368L), true);
        Probe.due("typed()", probe.shell.typed(), 3);
        Probe.due("type .o . .", probe.shell.type(0x006f002000000000L), true);
        Probe.due("typed()", probe.shell.typed(), 5);
        Probe.due("type abcdefgh", probe.shell.type(Probe.pack("abcdefgh")), true);
        Probe.due("typed()", probe.shell.typed(), 13);
        Probe.due("type ~", probe.shell.type(126), true);
        Probe.due("enter()", probe.shell.enter(), 0);
        Probe.due("output", probe.output(), "abcdefgh~\n");
    }

    private static void wrongBytesAreRefused() {
        Probe probe = Probe.roomy();
        probe.typeAll("echo ");
        for (int code = 1; code < 256; code++) {
            boolean fine = code >= 32 && code <= 126;
            for (int shift = 0; shift < 64; shift += 8) {
                probe.shell.wipe();
                probe.typeAll("ab");
                Probe.due("type " + code, probe.shell.type((long) code << shift), fine);
                Probe.due("typed()", probe.shell.typed(), fine ? 3 : 2);
            }
        }
        probe.shell.wipe();
        probe.typeAll("echo ");
        Probe.due("type, the last byte wrong", probe.shell.type(0x616263646566670aL), false);
        Probe.due("type, the first byte wrong", probe.shell.type(0x8061626364656667L), false);
        Probe.due("type(-1)", probe.shell.type(-1), false);
        Probe.due("type(MIN)", probe.shell.type(Long.MIN_VALUE), false);
        Probe.due("typed()", probe.shell.typed(), 5);
        Probe.due("check()", probe.shell.check(), 1);
    }

    private static void lineIsBounded() {
        Probe probe = Probe.roomy();
        Probe.due("59 characters", probe.typeAll("echo " + "a".repeat(54)), true);
        Probe.due("six more", probe.shell.type(Probe.pack("bbbbbb")), false);
        Probe.due("typed()", probe.shell.typed(), 59);
        Probe.due("five more with zeros", probe.shell.type(0x6262006262000062L), true);
        Probe.due("typed()", probe.shell.typed(), 64);
        Probe.due("one more", probe.shell.type('c'), false);
        Probe.due("none more", probe.shell.type(0), true);
        Probe.due("typed()", probe.shell.typed(), 64);
        Probe.due("enter()", probe.shell.enter(), 0);
        Probe.due("output", probe.output(), "a".repeat(54) + "bbbbb\n");
        Probe.due("type again", probe.shell.type('c'), true);
    }

    private static void wipeEmpties() {
        Probe probe = Probe.roomy();
        probe.runs("echo x", 0, "x\n", 1);
        probe.typeAll("cat nosuch");
        probe.shell.wipe();
        Probe.due("typed()", probe.shell.typed(), 0);
        Probe.due("check()", probe.shell.check(), 0);
        Probe.due("output after wipe()", probe.output(), "x\n");
        Probe.due("ran() after wipe()", probe.shell.ran(), 1);
        probe.shell.wipe();
        Probe.due("typed()", probe.shell.typed(), 0);
        probe.runs("echo y", 0, "y\n");
    }

    private static void enterEmpties() {
        Probe probe = new Probe(1, 0, 8);
        String[] lines = {"", "   ", "echo a", "cat nosuch", "(", "a '", "echo 123456789", "mkdir d"};
        for (String line : lines) {
            probe.typeAll(line);
            Probe.due("typed() of " + line, probe.shell.typed(), line.length());
            probe.shell.check();
            Probe.due("typed() after check()", probe.shell.typed(), line.length());
            probe.shell.enter();
            Probe.due("typed() after " + line, probe.shell.typed(), 0);
        }
    }
}
