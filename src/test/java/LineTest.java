/** Promises 2, 3 and 4: the line that is being typed. */
public final class LineTest {
    public static void main(String[] args) {
        bytesAreTakenHighestFirst();
        zerosArePassedOver();
        wrongBytesAreRefused();
        lineIsBounded();
        refusalChangesNothing();
        wipeEmpties();
        typedCounts();
        enterEmpties();
        Probe.finish("LineTest");
    }

    private static void types(Probe probe, long text, boolean due, int typed) {
        String what = "type(0x" + Long.toHexString(text) + ")";
        Probe.due(what, probe.type(text), due);
        Probe.due("typed() after " + what, probe.typed(), typed);
    }

    private static void bytesAreTakenHighestFirst() {
        Probe.sentence("Adds the characters that are the eight bytes of text, the highest first");
        Probe probe = Probe.roomy();
        types(probe, Probe.pack("echo  ab"), true, 8);
        types(probe, Probe.pack("cdefgh~~"), true, 16);
        types(probe, Probe.pack("x"), true, 17);
        Probe.due("enter()", probe.enter(), 0);
        Probe.due("output", probe.output(), "abcdefgh~~x\n");
    }

    private static void zerosArePassedOver() {
        Probe.sentence("(bytes that are 0 are passed over)");
        Probe probe = Probe.roomy();
        types(probe, 0, true, 0);
        types(probe, 0x6500000000006368L, true, 3);
        types(probe, 0x006f002000000000L, true, 5);
        types(probe, 0x6100000000000000L, true, 6);
        types(probe, 0, true, 6);
        types(probe, 0x0000006200000000L, true, 7);
        Probe.due("enter()", probe.enter(), 0);
        Probe.due("output", probe.output(), "ab\n");
    }

    private static void wrongBytesAreRefused() {
        Probe.sentence("false, changing nothing, if another byte is not 32 .. 126");
        for (int code = 1; code < 256; code++) {
            boolean fine = code >= 32 && code <= 126;
            for (int shift = 0; shift < 64; shift += 8) {
                Probe probe = Probe.roomy();
                probe.typeAll("ab");
                types(probe, (long) code << shift, fine, fine ? 3 : 2);
            }
        }
        Probe probe = Probe.roomy();
        probe.typeAll("ab");
        for (long code : new long[] {1, 10, 31, 127, 128, 255}) {
            for (int shift = 0; shift < 64; shift += 8) {
                types(probe, Probe.pack("cccccccc") & ~(255L << shift) | code << shift, false, 2);
            }
            types(probe, 0x6300000000000000L | code, false, 2);
            types(probe, code << 56 | 0x63, false, 2);
        }
        types(probe, -1, false, 2);
        types(probe, Long.MIN_VALUE, false, 2);
        types(probe, Long.MAX_VALUE, false, 2);
    }

    private static void lineIsBounded() {
        Probe.sentence("or the line would have more than 64 characters");
        Probe probe = Probe.roomy();
        Probe.due("59 characters", probe.typeAll("echo " + "a".repeat(54)), true);
        types(probe, Probe.pack("bbbbbbbb"), false, 59);
        types(probe, Probe.pack("bbbbbb"), false, 59);
        types(probe, 0x6262620062620062L, false, 59);
        types(probe, 0x6262006262000062L, true, 64);
        types(probe, 'c', false, 64);
        types(probe, 0x6300000000000000L, false, 64);
        types(probe, 0, true, 64);
        Probe.due("check()", probe.check(), 2);
        Probe.due("enter()", probe.enter(), 0);
        Probe.due("output", probe.output(), "a".repeat(54) + "bbbbb\n");
        types(probe, 'c', true, 1);
        Probe whole = Probe.roomy();
        Probe.due("64 characters by eights", whole.typeAll("'" + "b".repeat(62) + "'"), true);
        types(whole, Probe.pack("bbbbbbbb"), false, 64);
        whole.wipe();
        types(whole, Probe.pack("bbbbbbbb"), true, 8);
    }

    private static void refusalChangesNothing() {
        Probe.sentence("false, changing nothing");
        Probe probe = Probe.roomy();
        probe.runs("mkdir d;cd d;echo x;cat y", 1, "x\n", 4);
        probe.typeAll("echo ");
        types(probe, 0x616263646566670aL, false, 5);
        types(probe, 0x8061626364656667L, false, 5);
        types(probe, 0x61626364027f6667L, false, 5);
        Probe.due("output", probe.output(), "x\n");
        Probe.due("status()", probe.status(), 1);
        Probe.due("ran()", probe.ran(), 4);
        probe.tree(1, 0, 1);
        Probe.due("54 more", probe.typeAll("y".repeat(54)), true);
        types(probe, Probe.pack("zzzzzz"), false, 59);
        Probe.due("enter()", probe.enter(), 0);
        Probe.due("output", probe.output(), "y".repeat(54) + "\n");
    }

    private static void wipeEmpties() {
        Probe.sentence("The line that is being typed becomes empty.");
        Probe probe = Probe.roomy();
        probe.runs("mkdir d;cd d;echo x;cat y", 1, "x\n", 4);
        probe.wipe();
        Probe.due("typed() of nothing wiped", probe.typed(), 0);
        probe.typeAll("cat nosuch '");
        probe.wipe();
        Probe.due("typed()", probe.typed(), 0);
        Probe.due("check()", probe.check(), 0);
        Probe.due("output after wipe()", probe.output(), "x\n");
        Probe.due("status() after wipe()", probe.status(), 1);
        Probe.due("ran() after wipe()", probe.ran(), 4);
        probe.tree(1, 0, 1);
        Probe.due("64 characters", probe.typeAll("z".repeat(64)), true);
        probe.wipe();
        Probe.due("64 more", probe.typeAll("z".repeat(64)), true);
        probe.wipe();
        probe.runs("echo y", 0, "y\n");
    }

    private static void typedCounts() {
        Probe.sentence("How many characters the line that is being typed has.");
        Probe probe = Probe.roomy();
        Probe.due("typed() at first", probe.typed(), 0);
        for (int count = 1; count <= 64; count++) {
            probe.type(count % 2 == 0 ? ' ' : '\'');
            Probe.due("typed()", probe.typed(), count);
        }
        probe.type(' ');
        Probe.due("typed() of a full line", probe.typed(), 64);
        probe.check();
        Probe.due("typed() after check()", probe.typed(), 64);
    }

    private static void enterEmpties() {
        Probe.sentence("the line that is being typed is empty afterwards, in any case");
        Probe probe = new Probe(1, 0, 8);
        String[] lines = {
            "", "   ", "echo a", "cat nosuch", "(", "a '", "a&b", "echo 123456789", "mkdir d", "mkdir e", "echo x>f",
            "x".repeat(64), "'" + "x".repeat(63),
        };
        for (String line : lines) {
            probe.typeAll(line);
            Probe.due("typed() of " + line, probe.typed(), line.length());
            probe.enter();
            Probe.due("typed() after " + line, probe.typed(), 0);
            Probe.due("check() after " + line, probe.check(), 0);
        }
    }
}
