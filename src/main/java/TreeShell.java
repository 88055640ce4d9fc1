/**
 * A shell over a small tree of files: one call runs one command line.
 *
 * All rows that a call works in are made with the object, and a file's row with the file,
 * so that a long run of calls makes hardly any objects.
 */
public final class TreeShell {
    /** The line is outside of the grammar. */
    public static final int SYNTAX = -1;
    /** A capacity was too small. */
    public static final int SPACE = 100;

    private static final int MOST_TYPED = 64;
    private static final int MOST_OPEN = 4;
    private static final int MOST_IN_NAME = 7;

    private static final int FAILED = 1;
    private static final int MISUSED = 2;
    private static final int UNKNOWN = 127;

    private final Text line = new Text(MOST_TYPED);
    private final Tokens tokens = new Tokens(line);
    private final Grammar grammar = new Grammar(tokens);
    private final Tree tree;
    private final Runner runner;

    public TreeShell(int nodes, int chars, int pipe) {
        tree = new Tree(within(1, nodes, 12), within(0, chars, 160));
        runner = new Runner(tokens, tree, within(8, pipe, 96));
    }

    private static int within(int least, int wanted, int most) {
        return Math.max(least, Math.min(wanted, most));
    }

    public boolean type(long text) {
        int added = 0;
        for (int shift = 56; shift >= 0; shift -= 8) {
            int code = (int) (text >>> shift) & 255;
            if (code != 0 && (code < 32 || code > 126)) {
                return false;
            }
            added += code == 0 ? 0 : 1;
        }
        if (line.size + added > MOST_TYPED) {
            return false;
        }
        line.addPacked(text);
        return true;
    }

    public void wipe() {
        line.clear();
    }

    public int typed() {
        return line.size;
    }

    public int check() {
        return grammar.accepts() ? tokens.countWords() : SYNTAX;
    }

    public int enter() {
        boolean sound = grammar.accepts();
        runner.forget();
        if (sound && !runner.runList(0, tokens.count, 0, runner.nothing)) {
            runner.status = SPACE;
        }
        line.clear();
        return sound ? runner.status : SYNTAX;
    }

    public int status() {
        return runner.status;
    }

    public int length() {
        return runner.output().size;
    }

    public long out(int k) {
        Text output = runner.output();
        if (k < 0 || k > output.size / 8) {
            return 0;
        }
        long packed = 0;
        for (int place = 8 * k; place < 8 * k + 8; place++) {
            packed = packed << 8 | (place < output.size ? output.letters[place] : 0);
        }
        return packed;
    }

    public int ran() {
        return runner.ran;
    }

    public int nodes() {
        return tree.count;
    }

    public int chars() {
        return tree.total;
    }

    public int depth() {
        int above = 0;
        for (Node node = tree.here; node.parent != null; node = node.parent) {
            above++;
        }
        return above;
    }

    /** A text that grows up to a capacity; what does not fit is left out and leaves a mark. */
    private static final class Text {
        final char[] letters;
        int size = 0;
        boolean spilled = false;

        Text(int most) {
            letters = new char[most];
        }

        void clear() {
            size = 0;
            spilled = false;
        }

        void add(char letter) {
            if (size < letters.length) {
                letters[size] = letter;
                size++;
            } else {
                spilled = true;
            }
        }

        /** Adds a piece of another text as a whole or not at all: false if it does not fit. */
        boolean addPiece(Text other, int from, int to) {
            int more = to - from;
            if (from < 0 || more < 0 || to > other.size || more > letters.length - size) {
                spilled = true;
                return false;
            }
            System.arraycopy(other.letters, from, letters, size, more);
            size += more;
            return true;
        }

        boolean addAll(Text other) {
            return addPiece(other, 0, other.size);
        }

        void addNumber(int number) {
            int unit = 1;
            while (unit <= number / 10) {
                unit *= 10;
            }
            for (int rest = unit; rest > 0; rest /= 10) {
                add((char) ('0' + number / rest % 10));
            }
        }

        /** Adds the bytes of a long, the highest first, without those that are 0. */
        void addPacked(long packed) {
            for (int shift = 56; shift >= 0; shift -= 8) {
                char letter = (char) (packed >>> shift & 255);
                if (letter != 0) {
                    add(letter);
                }
            }
        }
    }

    /** The words and operators of the line, in its order. */
    private static final class Tokens {
        // The three that part pipelines stand together, and so do the three redirections.
        static final int SEMICOLON = 0;
        static final int AND = 1;
        static final int OR = 2;
        static final int PIPE = 3;
        static final int NOT = 4;
        static final int OPEN = 5;
        static final int CLOSE = 6;
        static final int READ = 7;
        static final int WRITE = 8;
        static final int APPEND = 9;
        static final int WORD = 10;
        static final int NONE = 11;

        final Text line;
        final int[] kinds = new int[MOST_TYPED];
        final int[] starts = new int[MOST_TYPED];
        final int[] ends = new int[MOST_TYPED];
        int count = 0;

        Tokens(Text line) {
            this.line = line;
        }

        /** False if a quote stays open or a single & stands in the line. */
        boolean cutLine() {
            count = 0;
            int place = 0;
            while (place < line.size) {
                int end = place + 1;
                if (line.letters[place] != ' ') {
                    int kind = kindOf(place);
                    end = kind == WORD ? wordEnd(place) : place + widthOf(kind);
                    if (kind == NONE || end > line.size || count >= kinds.length) {
                        return false;
                    }
                    kinds[count] = kind;
                    starts[count] = place;
                    ends[count] = end;
                    count++;
                }
                place = Math.max(place + 1, end);
            }
            return true;
        }

        private int kindOf(int place) {
            char letter = line.letters[place];
            boolean twice = place + 1 < line.size && line.letters[place + 1] == letter;
            switch (letter) {
                case ';': return SEMICOLON;
                case '&': return twice ? AND : NONE;
                case '|': return twice ? OR : PIPE;
                case '!': return NOT;
                case '(': return OPEN;
                case ')': return CLOSE;
                case '<': return READ;
                case '>': return twice ? APPEND : WRITE;
                default: return WORD;
            }
        }

        private static int widthOf(int kind) {
            return kind == AND || kind == OR || kind == APPEND ? 2 : 1;
        }

        /** Where the word ends; beyond the line if a quote in it does not end. */
        private int wordEnd(int from) {
            boolean quoted = false;
            for (int i = from; i < line.size; i++) {
                char letter = line.letters[i];
                if (letter == '\'') {
                    quoted = !quoted;
                } else if (!quoted && (letter == ' ' || kindOf(i) != WORD)) {
                    return i;
                }
            }
            return quoted ? line.size + 1 : line.size;
        }

        int kindAt(int i) {
            return i >= 0 && i < count ? kinds[i] : NONE;
        }

        boolean isRedirection(int i) {
            return i >= 0 && i < count && kinds[i] >= READ && kinds[i] <= APPEND;
        }

        int countWords() {
            int words = 0;
            for (int i = 0; i < count; i++) {
                words += kinds[i] == WORD ? 1 : 0;
            }
            return words;
        }

        /** The first place of from .. to, outside of groups, with a kind of low .. high; else to. */
        int find(int from, int to, int low, int high) {
            int open = 0;
            for (int i = from; i < to; i++) {
                int kind = kindAt(i);
                if (open == 0 && kind >= low && kind <= high) {
                    return i;
                }
                if (kind == OPEN) {
                    open++;
                } else if (kind == CLOSE) {
                    open--;
                }
            }
            return to;
        }
    }

    /** Tells whether the line is in the grammar, reading its tokens once from left to right. */
    private static final class Grammar {
        final Tokens tokens;
        int next = 0;

        Grammar(Tokens tokens) {
            this.tokens = tokens;
        }

        boolean accepts() {
            if (!tokens.cutLine()) {
                return false;
            }
            next = 0;
            return tokens.count == 0 || readList(0) && next == tokens.count;
        }

        // A list and its andors are read in one: only behind ; may the next pipeline be missing.
        private boolean readList(int open) {
            if (open > MOST_OPEN || !readPipeline(open)) {
                return false;
            }
            for (int i = 0; i < tokens.count; i++) {
                int kind = tokens.kindAt(next);
                if (kind > Tokens.OR) {
                    return true;
                }
                next++;
                if (kind == Tokens.SEMICOLON && isListEnd()) {
                    return true;
                }
                if (!readPipeline(open)) {
                    return false;
                }
            }
            return true;
        }

        private boolean isListEnd() {
            int kind = tokens.kindAt(next);
            return kind == Tokens.CLOSE || kind == Tokens.NONE;
        }

        private boolean readPipeline(int open) {
            if (tokens.kindAt(next) == Tokens.NOT) {
                next++;
            }
            for (int i = 0; i < tokens.count; i++) {
                if (!readCommand(open)) {
                    return false;
                }
                if (tokens.kindAt(next) != Tokens.PIPE) {
                    return true;
                }
                next++;
            }
            return false;
        }

        private boolean readCommand(int open) {
            if (tokens.kindAt(next) != Tokens.OPEN) {
                return readSimple();
            }
            next++;
            if (!readList(open + 1) || tokens.kindAt(next) != Tokens.CLOSE) {
                return false;
            }
            next++;
            return readRedirections();
        }

        private boolean readSimple() {
            boolean named = false;
            for (int i = 0; i < tokens.count; i++) {
                if (!readRedirections()) {
                    return false;
                }
                if (tokens.kindAt(next) != Tokens.WORD) {
                    return named;
                }
                named = true;
                next++;
            }
            return named;
        }

        private boolean readRedirections() {
            for (int i = 0; i < tokens.count && tokens.isRedirection(next); i++) {
                if (tokens.kindAt(next + 1) != Tokens.WORD) {
                    return false;
                }
                next += 2;
            }
            return true;
        }
    }

    /** The words of one command, without their quotes and with STATUS put in. */
    private static final class Words {
        // Every $? of a line, two characters, becomes three at the most.
        final Text joined = new Text(MOST_TYPED / 2 * 3);
        final int[] ends = new int[MOST_TYPED];
        int count = 0;

        void clear() {
            joined.clear();
            count = 0;
        }

        void add(Tokens tokens, int token, int status) {
            if (tokens.kindAt(token) != Tokens.WORD || count >= ends.length) {
                return;
            }
            char[] typed = tokens.line.letters;
            int end = tokens.ends[token];
            boolean quoted = false;
            for (int i = tokens.starts[token]; i < end; i++) {
                if (typed[i] == '\'') {
                    quoted = !quoted;
                } else if (typed[i] == '$' && !quoted && i + 1 < end && typed[i + 1] == '?') {
                    joined.addNumber(status);
                    i++;
                } else {
                    joined.add(typed[i]);
                }
            }
            ends[count] = joined.size;
            count++;
        }

        int startOf(int word) {
            return word > 0 && word <= count ? ends[word - 1] : 0;
        }

        int endOf(int word) {
            return word >= 0 && word < count ? ends[word] : 0;
        }

        boolean has(int word, String value) {
            int start = startOf(word);
            if (word >= count || endOf(word) - start != value.length()) {
                return false;
            }
            for (int i = 0; i < value.length(); i++) {
                if (joined.letters[start + i] != value.charAt(i)) {
                    return false;
                }
            }
            return true;
        }
    }

    /** A file, or a directory: that has no content. */
    private static final class Node {
        final Node parent;
        // Up to seven bytes with the first character highest: names sort as these numbers do.
        final long name;
        final Text content;
        final Node older;

        Node(Node parent, long name, Text content, Node older) {
            this.parent = parent;
            this.name = name;
            this.content = content;
            this.older = older;
        }
    }

    private static final class Tree {
        final int mostNodes;
        final int mostChars;
        final Node root = new Node(null, 0, null, null);
        Node newest = root;
        Node here = root;
        int count = 0;
        int total = 0;
        // What the path that was followed last names (null: nothing), and, if it is vacant,
        // the directory and the name that a new node there would have.
        Node found = null;
        Node vacantIn = null;
        long vacantName = 0;

        Tree(int mostNodes, int mostChars) {
            this.mostNodes = mostNodes;
            this.mostChars = mostChars;
        }

        Node follow(Words words, int word) {
            char[] letters = words.joined.letters;
            int start = words.startOf(word);
            int end = words.endOf(word);
            found = start < end && letters[start] == '/' ? root : here;
            vacantIn = null;
            long piece = 0;
            int size = 0;
            boolean plain = true;
            for (int i = start; i <= end; i++) {
                if (i < end && letters[i] != '/') {
                    piece = piece << 8 | letters[i];
                    size++;
                    plain = plain && isNameLetter(letters[i]);
                } else {
                    followPiece(piece, size, plain);
                    piece = 0;
                    size = 0;
                    plain = true;
                }
            }
            return found;
        }

        private static boolean isNameLetter(char letter) {
            return letter >= 'a' && letter <= 'z' || letter >= '0' && letter <= '9'
                || letter == '_' || letter == '.';
        }

        private void followPiece(long piece, int size, boolean plain) {
            if (size == 0 || size == 1 && piece == '.') {
                return;
            }
            Node from = found;
            found = null;
            vacantIn = null;
            if (from == null || from.content != null) {
                return;
            }
            if (size == 2 && piece == ('.' << 8 | '.')) {
                found = from.parent == null ? from : from.parent;
            } else if (size <= MOST_IN_NAME && plain) {
                vacantName = piece << 8 * (MOST_IN_NAME - size);
                for (Node node = newest; node != null; node = node.older) {
                    if (node.parent == from && node.name == vacantName) {
                        found = node;
                    }
                }
                vacantIn = found == null ? from : null;
            }
        }

        /** The node in a directory whose name is the next one behind a name; null if none is. */
        Node nextIn(Node directory, long name) {
            Node next = null;
            for (Node node = newest; node != null; node = node.older) {
                if (node.parent == directory && node.name > name
                        && (next == null || node.name < next.name)) {
                    next = node;
                }
            }
            return next;
        }

        /** Makes a node at the vacant path followed last; null if there are NODES already. */
        Node make(boolean file) {
            if (vacantIn == null || count >= mostNodes) {
                return null;
            }
            Text content = file ? new Text(mostChars) : null;
            newest = new Node(vacantIn, vacantName, content, newest);
            count++;
            return newest;
        }

        void empty(Text content) {
            total -= content.size;
            content.clear();
        }

        /** False, adding nothing, if all contents together would be longer than CHARS. */
        boolean append(Text content, Text more) {
            if (more.size > mostChars - total || !content.addAll(more)) {
                return false;
            }
            total += more.size;
            return true;
        }
    }

    /** The seven tools: each takes its words and gives a status, SPACE if the line must end. */
    private static final class Tools {
        final Words words;
        final Tree tree;

        Tools(Words words, Tree tree) {
            this.words = words;
            this.tree = tree;
        }

        int run(Text input, Text output) {
            if (words.has(0, "echo")) {
                return echo(output);
            }
            if (words.has(0, "cat")) {
                return cat(input, output);
            }
            if (words.has(0, "wc")) {
                return wc(input, output);
            }
            if (words.has(0, "grep")) {
                return grep(input, output);
            }
            if (words.has(0, "ls")) {
                return ls(output);
            }
            if (words.has(0, "mkdir")) {
                return mkdir();
            }
            return words.has(0, "cd") ? cd() : UNKNOWN;
        }

        private int echo(Text output) {
            boolean bare = words.has(1, "-n");
            int first = bare ? 2 : 1;
            for (int word = first; word < words.count; word++) {
                if (word > first) {
                    output.add(' ');
                }
                output.addPiece(words.joined, words.startOf(word), words.endOf(word));
            }
            if (!bare) {
                output.add('\n');
            }
            return 0;
        }

        private int cat(Text input, Text output) {
            if (words.count == 1) {
                output.addAll(input);
                input.clear();
                return 0;
            }
            // A wrong path counts ahead of an output that is too long, so all are tried first.
            for (int word = 1; word < words.count; word++) {
                if (contentOf(tree.follow(words, word)) == null) {
                    return FAILED;
                }
            }
            for (int word = 1; word < words.count; word++) {
                Text content = contentOf(tree.follow(words, word));
                if (content != null) {
                    output.addAll(content);
                }
            }
            return 0;
        }

        private static Text contentOf(Node node) {
            return node == null ? null : node.content;
        }

        private int wc(Text input, Text output) {
            if (words.count > 2) {
                return MISUSED;
            }
            boolean fromInput = words.count == 1;
            Text source = fromInput ? input : contentOf(tree.follow(words, 1));
            if (source == null) {
                return FAILED;
            }
            int newlines = 0;
            int pieces = 0;
            boolean between = true;
            for (int i = 0; i < source.size; i++) {
                char letter = source.letters[i];
                boolean parts = letter == ' ' || letter == '\n';
                newlines += letter == '\n' ? 1 : 0;
                pieces += between && !parts ? 1 : 0;
                between = parts;
            }
            output.addNumber(newlines);
            output.add(' ');
            output.addNumber(pieces);
            output.add(' ');
            output.addNumber(source.size);
            output.add('\n');
            if (fromInput) {
                input.clear();
            }
            return 0;
        }

        private int grep(Text input, Text output) {
            boolean others = words.has(1, "-v");
            int pattern = others ? 2 : 1;
            if (words.count <= pattern || words.count > pattern + 2) {
                return MISUSED;
            }
            boolean fromInput = words.count == pattern + 1;
            Text source = fromInput ? input : contentOf(tree.follow(words, pattern + 1));
            if (source == null) {
                return FAILED;
            }
            int ended = FAILED;
            int start = 0;
            for (int i = 0; i <= source.size; i++) {
                boolean ends = i < source.size ? source.letters[i] == '\n' : start < i;
                if (ends && matches(source, start, i, pattern) != others) {
                    output.addPiece(source, start, i);
                    output.add('\n');
                    ended = 0;
                }
                start = ends ? i + 1 : start;
            }
            if (fromInput) {
                input.clear();
            }
            return ended;
        }

        private boolean matches(Text source, int from, int to, int pattern) {
            char[] letters = words.joined.letters;
            int first = words.startOf(pattern);
            int end = words.endOf(pattern);
            boolean atStart = first < end && letters[first] == '^';
            first += atStart ? 1 : 0;
            boolean atEnd = first < end && letters[end - 1] == '$';
            end -= atEnd ? 1 : 0;
            int last = to - (end - first);
            int low = atEnd ? Math.max(from, last) : from;
            int high = atStart ? Math.min(from, last) : last;
            for (int place = low; place <= high; place++) {
                if (fits(source, place, first, end)) {
                    return true;
                }
            }
            return false;
        }

        private boolean fits(Text source, int place, int first, int end) {
            for (int i = first; i < end; i++) {
                char wanted = words.joined.letters[i];
                if (wanted != '.' && wanted != source.letters[place + i - first]) {
                    return false;
                }
            }
            return true;
        }

        private int ls(Text output) {
            if (words.count > 2) {
                return MISUSED;
            }
            Node node = words.count == 1 ? tree.here : tree.follow(words, 1);
            if (node == null) {
                return FAILED;
            }
            if (node.content != null) {
                output.addPacked(node.name);
                output.add('\n');
                return 0;
            }
            Node next = tree.nextIn(node, 0);
            for (int i = 0; i < tree.count && next != null; i++) {
                output.addPacked(next.name);
                if (next.content == null) {
                    output.add('/');
                }
                output.add('\n');
                next = tree.nextIn(node, next.name);
            }
            return 0;
        }

        private int mkdir() {
            if (words.count != 2) {
                return MISUSED;
            }
            tree.follow(words, 1);
            if (tree.vacantIn == null) {
                return FAILED;
            }
            return tree.make(false) == null ? SPACE : 0;
        }

        private int cd() {
            if (words.count > 2) {
                return MISUSED;
            }
            Node node = words.count == 1 ? tree.root : tree.follow(words, 1);
            if (node == null || node.content != null) {
                return FAILED;
            }
            tree.here = node;
            return 0;
        }
    }

    /** What is going on in the list under a number of open groups. */
    private static final class Level {
        final Text listOutput;
        final Text commandOutput;
        final Text piped;
        final Text redirected;
        boolean readsFile = false;
        Text target = null;

        Level(int mostChars, int pipe) {
            listOutput = new Text(pipe);
            commandOutput = new Text(pipe);
            piped = new Text(pipe);
            redirected = new Text(mostChars);
        }
    }

    /** Runs a line that is in the grammar, as ranges of its tokens. */
    private static final class Runner {
        final Text nothing = new Text(0);
        final Tokens tokens;
        final Tree tree;
        final Words words = new Words();
        final Tools tools;
        final Level[] levels = new Level[MOST_OPEN + 1];
        int status = 0;
        int ran = 0;

        Runner(Tokens tokens, Tree tree, int pipe) {
            this.tokens = tokens;
            this.tree = tree;
            tools = new Tools(words, tree);
            for (int i = 0; i < levels.length; i++) {
                levels[i] = new Level(tree.mostChars, pipe);
            }
        }

        Text output() {
            return levels[0].listOutput;
        }

        void forget() {
            levels[0].listOutput.clear();
            ran = 0;
        }

        /** False if the line must end by SPACE. */
        private boolean runList(int from, int to, int open, Text input) {
            if (open > MOST_OPEN) {
                return false;
            }
            levels[open].listOutput.clear();
            int before = Tokens.SEMICOLON;
            int start = from;
            while (start < to) {
                int end = Math.max(start, tokens.find(start, to, Tokens.SEMICOLON, Tokens.OR));
                if (isDue(before) && !runPipeline(start, end, open, input)) {
                    return false;
                }
                before = tokens.kindAt(end);
                start = end + 1;
            }
            return true;
        }

        private boolean isDue(int before) {
            if (before == Tokens.AND) {
                return status == 0;
            }
            return before != Tokens.OR || status != 0;
        }

        private boolean runPipeline(int from, int to, int open, Text input) {
            Level level = levels[open];
            boolean turned = tokens.kindAt(from) == Tokens.NOT;
            int start = turned ? from + 1 : from;
            boolean several = tokens.find(start, to, Tokens.PIPE, Tokens.PIPE) < to;
            Text source = input;
            int ended = 0;
            while (start < to) {
                int end = Math.max(start, tokens.find(start, to, Tokens.PIPE, Tokens.PIPE));
                Node before = tree.here;
                ended = runCommand(start, end, open, source);
                if (several) {
                    tree.here = before;
                }
                if (ended == SPACE) {
                    return false;
                }
                if (end < to) {
                    level.piped.clear();
                    level.piped.addAll(level.commandOutput);
                    source = level.piped;
                }
                start = end + 1;
            }
            if (turned) {
                ended = ended == 0 ? 1 : 0;
            }
            status = ended;
            return level.listOutput.addAll(level.commandOutput);
        }

        // SPACE can stand for the end of the line here: no command ends with that status itself.
        private int runCommand(int from, int to, int open, Text input) {
            Level level = levels[open];
            level.commandOutput.clear();
            level.readsFile = false;
            level.target = null;
            boolean group = tokens.kindAt(from) == Tokens.OPEN;
            int close = group ? tokens.find(from + 1, to, Tokens.CLOSE, Tokens.CLOSE) : from;
            int ended = redirect(close, to, level);
            if (ended != 0) {
                return ended;
            }
            Text source = level.readsFile ? level.redirected : input;
            if (group) {
                ended = runGroup(from + 1, close, open, source);
            } else {
                takeWords(from, to);
                ran++;
                ended = tools.run(source, level.commandOutput);
            }
            if (ended == SPACE || level.commandOutput.spilled) {
                return SPACE;
            }
            if (level.target != null) {
                if (!tree.append(level.target, level.commandOutput)) {
                    return SPACE;
                }
                level.commandOutput.clear();
            }
            return ended;
        }

        private int runGroup(int from, int to, int open, Text input) {
            Node before = tree.here;
            boolean done = runList(from, to, open + 1, input);
            tree.here = before;
            if (!done) {
                return SPACE;
            }
            levels[open].commandOutput.addAll(levels[open + 1].listOutput);
            return status;
        }

        private void takeWords(int from, int to) {
            words.clear();
            for (int i = from; i < to; i++) {
                if (!tokens.isRedirection(i - 1)) {
                    words.add(tokens, i, status);
                }
            }
        }

        private int redirect(int from, int to, Level level) {
            int ended = 0;
            for (int i = from; i < to && ended == 0; i++) {
                if (tokens.isRedirection(i)) {
                    words.clear();
                    words.add(tokens, i + 1, status);
                    tree.follow(words, 0);
                    ended = tokens.kindAt(i) == Tokens.READ
                        ? redirectInput(level)
                        : redirectOutput(level, tokens.kindAt(i) == Tokens.WRITE);
                }
            }
            return ended;
        }

        private int redirectInput(Level level) {
            Node file = tree.found;
            if (file == null || file.content == null) {
                return FAILED;
            }
            level.redirected.clear();
            level.redirected.addAll(file.content);
            level.readsFile = true;
            return 0;
        }

        private int redirectOutput(Level level, boolean emptied) {
            Node file = tree.found;
            if (tree.vacantIn != null) {
                file = tree.make(true);
                if (file == null) {
                    return SPACE;
                }
            }
            if (file == null || file.content == null) {
                return FAILED;
            }
            if (emptied) {
                tree.empty(file.content);
            }
            level.target = file.content;
            return 0;
        }
    }
}
