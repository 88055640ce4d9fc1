/**
 * A shell under test: it has the calls of the face, and runs and looks at whole lines. The class
 * keeps count of the answers that are not due.
 */
final class Probe {
    private static final int MOST_CALLS = 512;

    private static int asked = 0;
    private static int wrong = 0;
    private static int sentences = 0;
    private static String sentence = "";
    private static int askedBefore = 0;

    private final TreeShell shell;
    private int calls = 0;

    Probe(int nodes, int chars, int pipe) {
        shell = new TreeShell(nodes, chars, pipe);
    }

    /** A shell with the largest capacities. */
    static Probe roomy() {
        return new Probe(12, 160, 96);
    }

    static void due(String what, Object got, Object want) {
        asked++;
        if (!want.equals(got)) {
            wrong++;
            String broken = sentence.isEmpty() ? "" : " (\"" + sentence + "\")";
            System.out.println(what + " answered [" + got + "], due is [" + want + "]" + broken);
        }
    }

    /** Tells which words of the document the answers from here on hold the class to. */
    static void sentence(String words) {
        endSentence();
        sentence = words;
        sentences++;
    }

    private static void endSentence() {
        if (!sentence.isEmpty() && asked == askedBefore) {
            wrong++;
            System.out.println("no answer was looked at for \"" + sentence + "\"");
        }
        sentence = "";
        askedBefore = asked;
    }

    /** Says how many answers were looked at and ends the test, with exit code 1 if one was wrong. */
    static void finish(String test) {
        endSentence();
        String held = sentences == 0 ? "" : sentences + " sentences, ";
        System.out.println(test + ": " + held + asked + " answers, " + wrong + " wrong");
        if (wrong != 0 || asked == 0) {
            System.exit(1);
        }
    }

    static long pack(String text) {
        long packed = 0;
        for (int i = 0; i < text.length(); i++) {
            packed = packed << 8 | text.charAt(i);
        }
        return packed;
    }

    // What an object answers after so many calls is free, so no test may ask it for more.
    private TreeShell called() {
        calls++;
        if (calls == MOST_CALLS + 1) {
            wrong++;
            System.out.println("the test asks an object for more than its calls (\"" + sentence + "\")");
        }
        return shell;
    }

    int callsLeft() {
        return MOST_CALLS - calls;
    }

    boolean type(long text) {
        return called().type(text);
    }

    void wipe() {
        called().wipe();
    }

    int typed() {
        return called().typed();
    }

    int check() {
        return called().check();
    }

    int enter() {
        return called().enter();
    }

    int status() {
        return called().status();
    }

    int length() {
        return called().length();
    }

    long out(int k) {
        return called().out(k);
    }

    int ran() {
        return called().ran();
    }

    int nodes() {
        return called().nodes();
    }

    int chars() {
        return called().chars();
    }

    int depth() {
        return called().depth();
    }

    boolean typeAll(String text) {
        boolean all = true;
        for (int from = 0; from < text.length(); from += 8) {
            all &= type(pack(text.substring(from, Math.min(from + 8, text.length()))));
        }
        return all;
    }

    String output() {
        StringBuilder text = new StringBuilder();
        int length = length();
        for (int k = 0; 8 * k < length; k++) {
            long eight = out(k);
            for (int shift = 56; shift >= 0 && text.length() < length; shift -= 8) {
                text.append((char) (eight >>> shift & 255));
            }
        }
        return text.toString();
    }

    /** Runs a line: its answer, a blank and its output. */
    String run(String line) {
        if (!typeAll(line)) {
            return "not typed: " + line;
        }
        int answer = enter();
        return answer + " " + output();
    }

    void runs(String line, int answer, String output) {
        due(line, run(line), answer + " " + output);
    }

    /** Runs a line that also must have run as many simple commands. */
    void runs(String line, int answer, String output, int ran) {
        runs(line, answer, output);
        due(line + ": ran()", ran(), ran);
    }

    /** Runs a line for its effect. */
    void does(String line) {
        runs(line, 0, "");
    }

    /** The tree: how many nodes, how many characters, how deep HERE is. */
    void tree(int nodes, int chars, int depth) {
        due("nodes()", nodes(), nodes);
        due("chars()", chars(), chars);
        due("depth()", depth(), depth);
    }
}
