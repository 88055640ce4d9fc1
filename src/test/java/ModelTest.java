import java.util.Random;

/** Long random runs (always the same ones), in which class and model must answer alike. */
public final class ModelTest {
    private static final String[] PATHS = {
        "a", "b", "d", "e", "d/a", "d/e", "../a", "/d", "..", ".", "/", "d/../b", "e/", "f/g", "''", "/d/e/b",
        "...", "abcdefg", "toolong8", "A", "x$?", "./d//e", "c", "h", "i", "j",
    };
    private static final String[] WORDS = {
        "x", "yy", "zzz", "12345", "'a b'", "''", "$?", "'$?'", "-n", "-v", "a$?b", "$", "abcdefghij", "'^'a",
    };
    private static final String[] PATTERNS = {
        "x", "^x", "x$", "^x$", "''", "^", "$", "^$", ".", "..", "a.b", "^.$", "z.z", "1", "-v", "$$", "^^", "y",
    };
    private static final String[] NAMES = {"nosuch", "$?", "''", "'echo'", "ech", "cdd"};
    // Eight calls to type a line, thirteen for its output, and one for each other thing asked.
    private static final int CALLS_FOR_A_LINE = 30;
    private static final String NOISE = ";&|<>()!' $?abe-n/.";

    private final Random random;
    private final Probe probe;
    private final Model model;

    private ModelTest(long seed) {
        random = new Random(seed);
        int nodes = random.nextInt(3) == 0 ? random.nextInt(16) - 2 : 12;
        int chars = random.nextInt(2) == 0 ? random.nextInt(200) - 20 : 160;
        int pipe = random.nextInt(2) == 0 ? random.nextInt(110) : 96;
        probe = new Probe(nodes, chars, pipe);
        model = new Model(nodes, chars, pipe);
    }

    public static void main(String[] args) {
        int seeds = args.length > 0 ? Integer.parseInt(args[0]) : 4000;
        int[] seen = new int[129];
        for (int seed = 0; seed < seeds; seed++) {
            ModelTest test = new ModelTest(seed);
            while (test.probe.callsLeft() >= CALLS_FOR_A_LINE) {
                seen[test.step(seed) + 1]++;
            }
        }
        for (int answer : new int[] {-1, 0, 1, 2, 100, 127}) {
            Probe.due("the runs reach the answer " + answer, seen[answer + 1] > seeds / 4, true);
        }
        Probe.finish("ModelTest");
    }

    private int step(long seed) {
        String line = line();
        String what = "seed " + seed + " [" + line + "] ";
        Probe.due(what + "type", probe.typeAll(line), model.type(line));
        Probe.due(what + "typed()", probe.typed(), model.line.length());
        Probe.due(what + "check()", probe.check(), model.check());
        int answer = probe.enter();
        Probe.due(what + "enter()", answer, model.enter());
        Probe.due(what + "output", probe.output(), model.output);
        Probe.due(what + "status()", probe.status(), model.status);
        Probe.due(what + "ran()", probe.ran(), model.ran);
        Probe.due(what + "nodes()", probe.nodes(), model.nodes);
        Probe.due(what + "chars()", probe.chars(), model.chars());
        Probe.due(what + "depth()", probe.depth(), model.depth());
        return answer;
    }

    private String line() {
        String line = list(0);
        for (int i = 0; i < 20 && line.length() > 64; i++) {
            line = list(0);
        }
        if (random.nextInt(8) == 0) {
            int place = random.nextInt(line.length() + 1);
            line = line.substring(0, place) + noise() + line.substring(place);
        }
        return line.substring(0, Math.min(line.length(), 64));
    }

    private String noise() {
        return String.valueOf(NOISE.charAt(random.nextInt(NOISE.length())));
    }

    private String pick(String[] from) {
        return from[random.nextInt(from.length)];
    }

    private String list(int open) {
        StringBuilder list = new StringBuilder(pipeline(open));
        while (random.nextInt(5) < 3 && list.length() < 50) {
            list.append(pick(new String[] {";", ";", ";", "&&", "||", " ; ", " && "})).append(pipeline(open));
        }
        return list.append(random.nextInt(12) == 0 ? ";" : "").toString();
    }

    private String pipeline(int open) {
        StringBuilder pipeline = new StringBuilder(random.nextInt(10) == 0 ? "!" : "");
        pipeline.append(command(open));
        while (random.nextInt(4) == 0) {
            pipeline.append(random.nextInt(4) == 0 ? " | " : "|").append(command(open));
        }
        return pipeline.toString();
    }

    private String command(int open) {
        StringBuilder command = new StringBuilder();
        if (open < 5 && random.nextInt(5) == 0) {
            command.append("(").append(list(open + 1)).append(")");
        } else {
            while (random.nextInt(12) == 0) {
                command.append(redirection()).append(" ");
            }
            command.append(simple());
        }
        while (random.nextInt(4) == 0) {
            command.append(redirection());
        }
        return command.toString();
    }

    private String redirection() {
        return pick(new String[] {"<", ">", ">>", ">>", " > "}) + pick(PATHS);
    }

    private String simple() {
        switch (random.nextInt(12)) {
            case 0: case 1: case 2: return "echo" + some(WORDS, 4);
            case 3: case 4: return "cat" + some(PATHS, 3);
            case 5: return "wc" + some(PATHS, 2);
            case 6: return "grep" + (random.nextInt(3) == 0 ? " -v" : "") + some(PATTERNS, 2) + some(PATHS, 2);
            case 7: return "ls" + some(PATHS, 2);
            case 8: return "mkdir " + pick(PATHS);
            case 9: return "mkdir" + some(PATHS, 3);
            case 10: return "cd" + some(PATHS, 2);
            default: return pick(NAMES) + some(WORDS, 2);
        }
    }

    private String some(String[] from, int most) {
        StringBuilder words = new StringBuilder();
        for (int left = random.nextInt(most + 1); left > 0; left--) {
            words.append(' ').append(pick(from));
        }
        return words.toString();
    }
}
