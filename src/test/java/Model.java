import java.util.ArrayList;
import java.util.List;
import java.util.Map;
import java.util.TreeMap;

/**
 * The document once more, written in another way (a syntax tree, maps, strings, an exception for
 * SPACE), so that ModelTest can hold the class against it.
 */
final class Model {
    static final class Entry {
        final Entry parent;
        final String name;
        final TreeMap<String, Entry> children;
        String content = "";

        Entry(Entry parent, String name, boolean directory) {
            this.parent = parent;
            this.name = name;
            children = directory ? new TreeMap<>() : null;
        }
    }

    static final class SpaceEnd extends RuntimeException {
        private static final long serialVersionUID = 1L;
    }

    static final class SyntaxEnd extends RuntimeException {
        private static final long serialVersionUID = 1L;
    }

    /** An input that several may share: who reads takes all. */
    static final class Source {
        String text;

        Source(String text) {
            this.text = text;
        }

        String take() {
            String all = text;
            text = "";
            return all;
        }
    }

    record Redirection(String sign, String word) { }

    record Command(List<String> words, List<Redirection> redirections, List<Step> group) { }

    record Step(String sign, boolean not, List<Command> commands) { }

    record Result(int status, String output) { }

    final int mostNodes;
    final int mostChars;
    final int pipe;
    final Entry root = new Entry(null, "", true);
    Entry here = root;
    String line = "";
    String output = "";
    int status = 0;
    int ran = 0;
    int nodes = 0;

    private List<String> tokens;
    private int next;
    private int words;

    Model(int nodes, int chars, int pipe) {
        mostNodes = nodes < 1 ? 1 : nodes > 12 ? 12 : nodes;
        mostChars = chars < 0 ? 0 : chars > 160 ? 160 : chars;
        this.pipe = pipe < 8 ? 8 : pipe > 96 ? 96 : pipe;
    }

    boolean type(String text) {
        if (line.length() + text.length() > 64) {
            return false;
        }
        line += text;
        return true;
    }

    int check() {
        try {
            parse();
            return words;
        } catch (SyntaxEnd end) {
            return -1;
        }
    }

    int enter() {
        output = "";
        ran = 0;
        try {
            List<Step> steps = parse();
            StringBuilder put = new StringBuilder();
            try {
                runList(steps, new Source(""), put);
            } catch (SpaceEnd end) {
                status = 100;
            }
            output = put.toString();
            return status;
        } catch (SyntaxEnd end) {
            return -1;
        } finally {
            line = "";
        }
    }

    int chars() {
        return charsBelow(root);
    }

    private int charsBelow(Entry entry) {
        int sum = entry.content.length();
        if (entry.children != null) {
            for (Entry child : entry.children.values()) {
                sum += charsBelow(child);
            }
        }
        return sum;
    }

    int depth() {
        return here == root ? 0 : pathOf(here).split("/").length;
    }

    private String pathOf(Entry entry) {
        return entry.parent == root ? entry.name : pathOf(entry.parent) + "/" + entry.name;
    }

    // The grammar. A token of a word begins with w; all others are operators.

    private List<Step> parse() {
        tokens = tokensOf(line);
        next = 0;
        words = 0;
        if (tokens.isEmpty()) {
            return List.of();
        }
        List<Step> steps = parseList(0);
        if (next < tokens.size()) {
            throw new SyntaxEnd();
        }
        return steps;
    }

    private static List<String> tokensOf(String line) {
        List<String> found = new ArrayList<>();
        String rest = line;
        while (true) {
            while (rest.startsWith(" ")) {
                rest = rest.substring(1);
            }
            if (rest.isEmpty()) {
                return found;
            }
            String operator = operatorAt(rest);
            if (operator != null) {
                found.add(operator);
                rest = rest.substring(operator.length());
                continue;
            }
            StringBuilder word = new StringBuilder();
            while (!rest.isEmpty() && rest.charAt(0) != ' ' && operatorAt(rest) == null) {
                int size = 1;
                if (rest.charAt(0) == '\'') {
                    size = rest.indexOf('\'', 1) + 1;
                    if (size == 0) {
                        throw new SyntaxEnd();
                    }
                }
                word.append(rest, 0, size);
                rest = rest.substring(size);
            }
            found.add("w" + word);
        }
    }

    private static String operatorAt(String rest) {
        for (String operator : List.of("&&", "||", ">>", ";", "|", "<", ">", "(", ")", "!")) {
            if (rest.startsWith(operator)) {
                return operator;
            }
        }
        if (rest.startsWith("&")) {
            throw new SyntaxEnd();
        }
        return null;
    }

    private String peek() {
        return next < tokens.size() ? tokens.get(next) : "end";
    }

    private boolean took(String token) {
        if (!peek().equals(token)) {
            return false;
        }
        next++;
        return true;
    }

    private String word() {
        if (!peek().startsWith("w")) {
            throw new SyntaxEnd();
        }
        words++;
        return tokens.get(next++).substring(1);
    }

    private List<Step> parseList(int open) {
        List<Step> steps = new ArrayList<>();
        parseAndor(open, steps);
        while (took(";")) {
            if (peek().equals("end") || peek().equals(")")) {
                break;
            }
            parseAndor(open, steps);
        }
        return steps;
    }

    private void parseAndor(int open, List<Step> steps) {
        steps.add(parsePipeline(";", open));
        while (peek().equals("&&") || peek().equals("||")) {
            String sign = tokens.get(next++);
            steps.add(parsePipeline(sign, open));
        }
    }

    private Step parsePipeline(String sign, int open) {
        boolean not = took("!");
        List<Command> commands = new ArrayList<>();
        do {
            commands.add(parseCommand(open));
        } while (took("|"));
        return new Step(sign, not, commands);
    }

    private Command parseCommand(int open) {
        List<String> found = new ArrayList<>();
        List<Redirection> redirections = new ArrayList<>();
        if (took("(")) {
            if (open == 4) {
                throw new SyntaxEnd();
            }
            List<Step> steps = parseList(open + 1);
            if (!took(")")) {
                throw new SyntaxEnd();
            }
            parseRedirections(redirections);
            return new Command(null, redirections, steps);
        }
        parseRedirections(redirections);
        found.add(word());
        parseRedirections(redirections);
        while (peek().startsWith("w")) {
            found.add(word());
            parseRedirections(redirections);
        }
        return new Command(found, redirections, null);
    }

    private void parseRedirections(List<Redirection> redirections) {
        while (peek().startsWith("<") || peek().startsWith(">")) {
            String sign = tokens.get(next++);
            redirections.add(new Redirection(sign, word()));
        }
    }

    private String valueOf(String word) {
        StringBuilder value = new StringBuilder();
        String[] pieces = word.split("'", -1);
        for (int i = 0; i < pieces.length; i++) {
            // Every second piece stood in quotes.
            value.append(i % 2 == 1 ? pieces[i] : pieces[i].replace("$?", String.valueOf(status)));
        }
        return value.toString();
    }

    // Running.

    private void runList(List<Step> steps, Source input, StringBuilder put) {
        for (Step step : steps) {
            if (step.sign.equals("&&") && status != 0 || step.sign.equals("||") && status == 0) {
                continue;
            }
            Result result = runPipeline(step, input);
            status = result.status;
            if (put.length() + result.output.length() > pipe) {
                throw new SpaceEnd();
            }
            put.append(result.output);
        }
    }

    private Result runPipeline(Step step, Source input) {
        Entry before = here;
        Source source = input;
        Result result = null;
        boolean several = step.commands.size() > 1;
        for (Command command : step.commands) {
            try {
                result = runCommand(command, source);
            } finally {
                here = several ? before : here;
            }
            source = new Source(result.output);
        }
        if (step.not) {
            return new Result(result.status == 0 ? 1 : 0, result.output);
        }
        return result;
    }

    private Result runCommand(Command command, Source input) {
        Source source = input;
        Entry target = null;
        for (Redirection redirection : command.redirections) {
            String path = valueOf(redirection.word);
            Entry entry = named(path);
            if (redirection.sign.equals("<")) {
                if (entry == null || entry.children != null) {
                    return new Result(1, "");
                }
                source = new Source(entry.content);
                continue;
            }
            if (entry == null && isVacant(path)) {
                entry = make(path, false);
            }
            if (entry == null || entry.children != null) {
                return new Result(1, "");
            }
            if (redirection.sign.equals(">")) {
                entry.content = "";
            }
            target = entry;
        }
        Result result = command.group != null ? runGroup(command, source) : runTool(command, source);
        if (target == null) {
            return result;
        }
        if (chars() + result.output.length() > mostChars) {
            throw new SpaceEnd();
        }
        target.content += result.output;
        return new Result(result.status, "");
    }

    private Result runGroup(Command command, Source input) {
        Entry before = here;
        StringBuilder put = new StringBuilder();
        try {
            runList(command.group, input, put);
        } finally {
            here = before;
        }
        return new Result(status, put.toString());
    }

    private Result runTool(Command command, Source input) {
        List<String> values = new ArrayList<>();
        for (String word : command.words) {
            values.add(valueOf(word));
        }
        ran++;
        Result result = tool(values.get(0), values.subList(1, values.size()), input);
        if (result.status != 0) {
            return new Result(result.status, "");
        }
        if (result.output.length() > pipe) {
            throw new SpaceEnd();
        }
        return result;
    }

    // Paths.

    private static List<String> piecesOf(String path) {
        List<String> pieces = new ArrayList<>();
        for (String piece : path.split("/")) {
            if (!piece.isEmpty() && !piece.equals(".")) {
                pieces.add(piece);
            }
        }
        return pieces;
    }

    private Entry follow(String path, List<String> pieces) {
        Entry at = path.startsWith("/") ? root : here;
        for (String piece : pieces) {
            if (at == null || at.children == null) {
                return null;
            }
            if (piece.equals("..")) {
                at = at.parent == null ? at : at.parent;
            } else {
                at = at.children.get(piece);
            }
        }
        return at;
    }

    private Entry named(String path) {
        return follow(path, piecesOf(path));
    }

    private Entry directoryFor(String path) {
        List<String> pieces = piecesOf(path);
        return follow(path, pieces.subList(0, pieces.size() - 1));
    }

    private static String lastOf(String path) {
        List<String> pieces = piecesOf(path);
        return pieces.isEmpty() ? "" : pieces.get(pieces.size() - 1);
    }

    private boolean isVacant(String path) {
        if (named(path) != null || !lastOf(path).matches("[a-z0-9_.]{1,7}") || lastOf(path).equals("..")) {
            return false;
        }
        Entry directory = directoryFor(path);
        return directory != null && directory.children != null;
    }

    private Entry make(String path, boolean directory) {
        if (nodes == mostNodes) {
            throw new SpaceEnd();
        }
        nodes++;
        Entry parent = directoryFor(path);
        Entry made = new Entry(parent, lastOf(path), directory);
        parent.children.put(made.name, made);
        return made;
    }

    // Tools.

    private static Result ended(int status) {
        return new Result(status, "");
    }

    private static Result gives(String output) {
        return new Result(0, output);
    }

    private String fileText(String path) {
        Entry entry = named(path);
        return entry == null || entry.children != null ? null : entry.content;
    }

    private Result tool(String name, List<String> given, Source input) {
        switch (name) {
            case "echo":
                return echo(given);
            case "cat":
                return cat(given, input);
            case "wc":
                return given.size() > 1 ? ended(2) : wc(given, input);
            case "grep":
                return grep(given, input);
            case "ls":
                return given.size() > 1 ? ended(2) : ls(given.isEmpty() ? here : named(given.get(0)));
            case "mkdir":
                return given.size() != 1 ? ended(2) : mkdir(given.get(0));
            case "cd":
                return given.size() > 1 ? ended(2) : cd(given.isEmpty() ? root : named(given.get(0)));
            default:
                return ended(127);
        }
    }

    private static Result echo(List<String> given) {
        if (!given.isEmpty() && given.get(0).equals("-n")) {
            return gives(String.join(" ", given.subList(1, given.size())));
        }
        return gives(String.join(" ", given) + "\n");
    }

    private Result cat(List<String> given, Source input) {
        if (given.isEmpty()) {
            return gives(input.take());
        }
        StringBuilder all = new StringBuilder();
        for (String path : given) {
            String text = fileText(path);
            if (text == null) {
                return ended(1);
            }
            all.append(text);
        }
        return gives(all.toString());
    }

    private Result wc(List<String> given, Source input) {
        String text = given.isEmpty() ? input.take() : fileText(given.get(0));
        if (text == null) {
            return ended(1);
        }
        String words = text.replace('\n', ' ').trim();
        int count = words.isEmpty() ? 0 : words.split(" +").length;
        int newlines = text.length() - text.replace("\n", "").length();
        return gives(newlines + " " + count + " " + text.length() + "\n");
    }

    private Result grep(List<String> given, Source input) {
        boolean others = !given.isEmpty() && given.get(0).equals("-v");
        List<String> rest = given.subList(others ? 1 : 0, given.size());
        if (rest.isEmpty() || rest.size() > 2) {
            return ended(2);
        }
        String text = rest.size() == 1 ? input.take() : fileText(rest.get(1));
        if (text == null) {
            return ended(1);
        }
        String regex = regexOf(rest.get(0));
        StringBuilder found = new StringBuilder();
        for (String each : linesOf(text)) {
            if (each.matches(regex) != others) {
                found.append(each).append('\n');
            }
        }
        return found.length() == 0 ? ended(1) : gives(found.toString());
    }

    private static String[] linesOf(String text) {
        if (text.isEmpty()) {
            return new String[0];
        }
        String ended = text.endsWith("\n") ? text.substring(0, text.length() - 1) : text;
        return ended.split("\n", -1);
    }

    private static String regexOf(String pattern) {
        String core = pattern;
        String before = ".*";
        String behind = ".*";
        if (core.startsWith("^")) {
            core = core.substring(1);
            before = "";
        }
        if (core.endsWith("$")) {
            core = core.substring(0, core.length() - 1);
            behind = "";
        }
        StringBuilder regex = new StringBuilder(before);
        for (char letter : core.toCharArray()) {
            regex.append(letter == '.' ? "." : java.util.regex.Pattern.quote(String.valueOf(letter)));
        }
        return regex.append(behind).toString();
    }

    private static Result ls(Entry entry) {
        if (entry == null) {
            return ended(1);
        }
        if (entry.children == null) {
            return gives(entry.name + "\n");
        }
        StringBuilder names = new StringBuilder();
        for (Map.Entry<String, Entry> child : entry.children.entrySet()) {
            names.append(child.getKey());
            names.append(child.getValue().children == null ? "\n" : "/\n");
        }
        return gives(names.toString());
    }

    private Result mkdir(String path) {
        if (!isVacant(path)) {
            return ended(1);
        }
        make(path, true);
        return gives("");
    }

    private Result cd(Entry entry) {
        if (entry == null || entry.children == null) {
            return ended(1);
        }
        here = entry;
        return gives("");
    }
}
