/** A shell under test: types and runs whole lines, and keeps count of the answers that are not due. */
final class Probe {
    private static int asked = 0;
    private static int wrong = 0;

    final TreeShell shell;

    Probe(int nodes, int chars, int pipe) {
        shell = new TreeShell(nodes, chars, pipe);
    }

    /** A shell with the largest capacities. */
    static Probe roomy() {
        return new Probe(12, 160, 96);
    }

    static void due(String what, Object got, Object want) {
        asked++;
        if (!want.equals(got)) {
            wrong++;
            System.out.println(what + " answered [" + got + "], due is [" + want + "]");
        }
    }

    /** Says how many answers were looked at and ends the test, with exit code 1 if one was wrong. */
    static void finish(String test) {
        System.out.println(test + ": " + asked + " answers, " + wrong + " wrong");
        if (wrong != 0 || asked == 0) {
            System.exit(1);
        }
    }

    static long pack(String text) {
        long packed = 0;
        for (int i = 0; i < text.length(); i++) {
            packed = packed << 8 | text.charAt(i);
        }
        return packed;
    }

    boolean typeAll(String text) {
        boolean all = true;
        for (int from = 0; from < text.length(); from += 8) {
            all &= shell.type(pack(text.substring(from, Math.min(from + 8, text.length()))));
        }
        return all;
    }

    String output() {
        StringBuilder text = new StringBuilder();
        for (int place = 0; place < shell.length(); place++) {
            text.append((char) (shell.out(place / 8) >>> 56 - 8 * (place % 8) & 255));
        }
        return text.toString();
    }

    /** Runs a line: its answer, a blank and its output. */
    String run(String line) {
        if (!typeAll(line)) {
            return "not typed: " + line;
        }
        int answer = shell.enter();
        return answer + " " + output();
    }

    void runs(String line, int answer, String output) {
        due(line, run(line), answer + " " + output);
    }

    /** Runs a line that also must have run as many simple commands. */
    void runs(String line, int answer, String output, int ran) {
        runs(line, answer, output);
        due(line + ": ran()", shell.ran(), ran);
    }

    /** Runs a line for its effect. */
    void does(String line) {
        runs(line, 0, "");
    }

    void words(String line, int want) {
        shell.wipe();
        due("type " + line, typeAll(line), true);
        due("check " + line, shell.check(), want);
        shell.wipe();
    }

    /** The tree: how many nodes, how many characters, how deep HERE is. */
    void tree(int nodes, int chars, int depth) {
        due("nodes()", shell.nodes(), nodes);
        due("chars()", shell.chars(), chars);
        due("depth()", shell.depth(), depth);
    }
}
