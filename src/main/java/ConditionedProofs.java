import java.util.Arrays;

/**
 * Constants with parameters that hang on one another and conditions that programs work out; terms are read
 * and their types found, holes in them being filled on the way.
 */
public final class ConditionedProofs {
    public static final int NONE = -1;
    public static final int WRONG = -100;
    public static final int LONG = -200;
    public static final int FAILED = -300;

    private static final int TEXT_LIMIT = 80;
    private static final int PAGE_LIMIT = 100;
    private static final int LETTERS = 26;
    private static final int TERM_DEPTH = 8;
    private static final int CODE_DEPTH = 12;
    private static final int MOST_ARGUMENTS = 6;
    private static final int MOST_PARTS = 6;
    private static final int MOST_PROGRAM_PARAMETERS = 4;
    private static final int MOST_CASES = 5;
    private static final int NODE_LIMIT = 200;
    private static final int PAIR_LIMIT = 1000;
    private static final int STEP_LIMIT = 100;
    private static final int WORK_DEPTH = 30;
    /** A page of 100 characters holds a value of at most 34 levels, so this one is never reached. */
    private static final int KEPT_DEPTH = 40;

    /** What stands at the end of the text: no character of a text has this code. */
    private static final char END = 0;
    private static final int UNNAMED = 0;

    /** The sorts of nodes; values have those up to LETTER, a VARIABLE being a name that is only itself. */
    private static final int NUMBER = 1;
    private static final int HASH = 2;
    private static final int STAR = 3;
    private static final int HOLE = 4;
    private static final int VARIABLE = 5;
    private static final int LETTER = 6;
    private static final int PLUS = 7;
    private static final int MINUS = 8;
    private static final int MATCH = 9;
    private static final int CASE = 10;
    private static final int EQUAL = 11;
    private static final int LESS = 12;
    private static final int FAILURE = 13;
    private static final int PARAMETER = 14;
    private static final int CONDITION = 15;
    private static final int RESULT = 16;
    private static final int LIST = 17;

    /** What may be read as a piece: a term with holes, one without, a code. */
    private static final int OPEN_TERM = 1;
    private static final int CLOSED_TERM = 2;
    private static final int CODE = 3;

    private final char[] text;
    private int textSize;
    private final char[] page;
    private int pageSize;
    private final Dictionary dictionary;
    private final Values values;
    private final Bindings bindings;
    private final Reader reader;
    private final Runner runner;
    private final Typer typer;
    private final CodeInspector inspector;
    private Node result;
    private boolean openResult;

    public ConditionedProofs() {
        text = new char[TEXT_LIMIT];
        textSize = 0;
        page = new char[PAGE_LIMIT];
        pageSize = 0;
        dictionary = new Dictionary();
        values = new Values();
        bindings = new Bindings();
        reader = new Reader();
        runner = new Runner(dictionary, values, bindings);
        typer = new Typer(dictionary, values, bindings, runner);
        inspector = new CodeInspector(dictionary, bindings);
        result = null;
        openResult = false;
    }

    public boolean type(char c) {
        if (c < 32 || c > 126 || textSize >= TEXT_LIMIT) {
            return false;
        }
        text[textSize] = c;
        textSize++;
        return true;
    }

    public int wipe() {
        int had = textSize;
        textSize = 0;
        return had;
    }

    public int declare(char letter) throws IllegalArgumentException, IllegalStateException {
        refuseUnlessFree(letter);
        openText();
        Node tree = reader.readDeclaration();
        if (tree == null) {
            return fault();
        }
        int wrong = typer.wrongInDeclaration(tree);
        if (wrong != NONE) {
            return WRONG - wrong;
        }
        return enter(new Entry(letter, false, tree));
    }

    public int program(char letter) throws IllegalArgumentException, IllegalStateException {
        refuseUnlessFree(letter);
        openText();
        Node tree = reader.readProgram();
        if (tree == null) {
            return fault();
        }
        Entry entry = new Entry(letter, true, tree);
        int wrong = inspector.wrongInProgram(entry);
        if (wrong != NONE) {
            return WRONG - wrong;
        }
        return enter(entry);
    }

    public int check() {
        openText();
        runner.forgetSteps();
        result = null;
        Node term = reader.readTerm();
        if (term == null) {
            return fault();
        }
        int found = typer.typeAlone(term);
        if (found == NONE) {
            return WRONG - typer.wrongPlace();
        }
        if (!show(found)) {
            return LONG;
        }
        result = values.keep(found, 1);
        openResult = pageShowsHole();
        return pageSize;
    }

    public void lemma(char letter) throws IllegalArgumentException, IllegalStateException {
        refuseUnlessFree(letter);
        if (result == null || openResult) {
            throw new IllegalStateException("no result without holes");
        }
        Node part = new Node(RESULT, UNNAMED, 0);
        part.add(result);
        Node tree = new Node(LIST, UNNAMED, 0);
        tree.add(part);
        enter(new Entry(letter, false, tree));
    }

    public char retract() throws IllegalStateException {
        if (dictionary.isEmpty()) {
            throw new IllegalStateException("nothing is declared");
        }
        result = null;
        return dictionary.removeLatest();
    }

    public int run(char letter) throws IllegalArgumentException {
        Entry entry = dictionary.find(letter);
        if (entry == null || !entry.isProgram) {
            throw new IllegalArgumentException("no program");
        }
        openText();
        runner.forgetSteps();
        Node terms = reader.readTerms();
        if (terms == null) {
            return fault();
        }
        if (terms.count != entry.parameterCount) {
            return WRONG;
        }
        int wrong = typer.wrongInArguments(terms);
        if (wrong != NONE) {
            return WRONG - wrong;
        }
        int given = runner.carryOut(letter, 0);
        if (given == NONE) {
            return FAILED;
        }
        return show(given) ? pageSize : LONG;
    }

    public int steps() {
        return runner.allSteps();
    }

    public int kind(char letter) {
        Entry entry = dictionary.find(letter);
        if (entry == null) {
            return 0;
        }
        return entry.isProgram ? 2 : 1;
    }

    public int parameters(char letter) {
        Entry entry = dictionary.find(letter);
        return entry == null ? NONE : entry.parameterCount;
    }

    public int length() {
        return pageSize;
    }

    public char charAt(int p) {
        return p >= 0 && p < pageSize ? page[p] : ' ';
    }

    private void refuseUnlessFree(char letter) {
        if (!isLetter(letter)) {
            throw new IllegalArgumentException("not a letter A .. Z");
        }
        if (dictionary.find(letter) != null) {
            throw new IllegalStateException("the letter stands for something");
        }
    }

    private void openText() {
        reader.open(text, textSize);
        textSize = 0;
        values.clear();
        bindings.cut(0);
    }

    private int fault() {
        return -1 - reader.place();
    }

    private int enter(Entry entry) {
        dictionary.add(entry);
        return entry.parameterCount;
    }

    /** Writes a value on the page, which stays when the value is too long for it. */
    private boolean show(int value) {
        int size = values.write(value);
        if (size > PAGE_LIMIT) {
            return false;
        }
        for (int i = 0; i < size; i++) {
            page[i] = values.written(i);
        }
        pageSize = size;
        return true;
    }

    /** Only holes are written as _ , so the page tells whether one is left. */
    private boolean pageShowsHole() {
        for (int i = 0; i < pageSize; i++) {
            if (page[i] == '_') {
                return true;
            }
        }
        return false;
    }

    private static boolean isLetter(char c) {
        return c >= 'A' && c <= 'Z';
    }

    private static boolean isVariable(char c) {
        return c >= 'a' && c <= 'z';
    }

    private static boolean isDigit(char c) {
        return c >= '0' && c <= '9';
    }

    /**
     * A piece of what was read, with its parts in a chain. A PARAMETER has its name and its term; a CONDITION
     * its program's letter, the terms and last the one behind = ; a RESULT its term or STAR; a CASE its pattern
     * and its code; a MATCH its code and its cases. A LIST is a whole text: a declaration's parts and last its
     * result, a program's parameters and last its code, or terms.
     */
    static final class Node {
        final int sort;
        final int symbol;
        final int place;
        int count;
        Node first;
        Node last;
        Node next;

        Node(int sort, int symbol, int place) {
            this.sort = sort;
            this.symbol = symbol;
            this.place = place;
            count = 0;
            first = null;
            last = null;
            next = null;
        }

        void add(Node part) {
            if (last == null) {
                first = part;
            } else {
                last.next = part;
            }
            last = part;
            count++;
        }

        int countOf(int wanted) {
            int found = 0;
            for (Node part = first; part != null; part = part.next) {
                if (part.sort == wanted) {
                    found++;
                }
            }
            return found;
        }
    }

    /** What a letter stands for. */
    static final class Entry {
        final char letter;
        final boolean isProgram;
        final int parameterCount;
        final boolean hasConditions;
        final Node tree;

        Entry(char letter, boolean isProgram, Node tree) {
            this.letter = letter;
            this.isProgram = isProgram;
            this.tree = tree;
            parameterCount = isProgram ? tree.count - 1 : tree.countOf(PARAMETER);
            hasConditions = !isProgram && tree.countOf(CONDITION) > 0;
        }
    }

    /** The letters, and the order in which they were declared. */
    static final class Dictionary {
        private final Entry[] byLetter;
        private final char[] order;
        private int size;

        Dictionary() {
            byLetter = new Entry[LETTERS];
            order = new char[LETTERS];
            size = 0;
        }

        Entry find(int letter) {
            int index = letter - 'A';
            return index >= 0 && index < LETTERS ? byLetter[index] : null;
        }

        Entry findConstant(Node used) {
            Entry entry = find(used.symbol);
            boolean fits = entry != null && !entry.isProgram && entry.parameterCount == used.count;
            return fits ? entry : null;
        }

        boolean isEmpty() {
            return size == 0;
        }

        void add(Entry entry) {
            int index = entry.letter - 'A';
            if (index >= 0 && index < LETTERS && size < LETTERS) {
                byLetter[index] = entry;
                order[size] = entry.letter;
                size++;
            }
        }

        char removeLatest() {
            if (size == 0) {
                return ' ';
            }
            size--;
            char letter = order[size];
            int index = letter - 'A';
            if (index >= 0 && index < LETTERS) {
                byLetter[index] = null;
            }
            return letter;
        }
    }

    /** Numbers in a row that grows at its end and is used again by the calls to come. */
    static final class Row {
        private int[] items;
        private int size;

        Row(int room) {
            items = new int[Math.max(room, 1)];
            size = 0;
        }

        int size() {
            return size;
        }

        void push(int item) {
            if (size == items.length) {
                items = Arrays.copyOf(items, 2 * size);
            }
            items[size] = item;
            size++;
        }

        int pop() {
            if (size == 0) {
                return NONE;
            }
            size--;
            return items[size];
        }

        int get(int index) {
            return index >= 0 && index < size ? items[index] : NONE;
        }

        void set(int index, int item) {
            if (index >= 0 && index < size) {
                items[index] = item;
            }
        }

        void cut(int newSize) {
            if (newSize >= 0 && newSize < size) {
                size = newSize;
            }
        }
    }

    /**
     * A pile of values, of which some have names (and those of a declaration types). Arguments are gathered at
     * its top; a frame of it is what a constant or a program knows by name.
     */
    static final class Bindings {
        private final Row names;
        private final Row held;
        private final Row types;

        Bindings() {
            names = new Row(64);
            held = new Row(64);
            types = new Row(64);
        }

        int size() {
            return names.size();
        }

        void push(int name, int value, int itsType) {
            names.push(name);
            held.push(value);
            types.push(itsType);
        }

        void pushUnnamed(int value) {
            push(UNNAMED, value, NONE);
        }

        void rename(int index, int name) {
            names.set(index, name);
        }

        void cut(int newSize) {
            names.cut(newSize);
            held.cut(newSize);
            types.cut(newSize);
        }

        /** Looks from the end, because a later name hides an earlier one. */
        int indexOf(int name, int from, int to) {
            for (int i = to - 1; i >= from; i--) {
                if (names.get(i) == name) {
                    return i;
                }
            }
            return NONE;
        }

        int valueAt(int index) {
            return held.get(index);
        }

        int typeAt(int index) {
            return types.get(index);
        }

        int valueOf(int name, int from) {
            return held.get(indexOf(name, from, names.size()));
        }
    }

    /** Reads the text as what it should be; what can't be read is null, and the place then is the fault's. */
    static final class Reader {
        private char[] text;
        private int end;
        private int at;

        Reader() {
            text = new char[0];
            end = 0;
            at = 0;
        }

        void open(char[] newText, int size) {
            text = newText;
            end = Math.min(size, newText.length);
            at = 0;
        }

        int place() {
            return at;
        }

        Node readTerm() {
            return whole(piece(OPEN_TERM, 1));
        }

        Node readTerms() {
            Node tree = new Node(LIST, UNNAMED, 0);
            return whole(readPieces(tree, CLOSED_TERM, 1, END) ? tree : null);
        }

        Node readDeclaration() {
            Node tree = new Node(LIST, UNNAMED, 0);
            if (!readParts(tree)) {
                return null;
            }
            Node part = new Node(RESULT, UNNAMED, at);
            tree.add(part);
            if (peek() == '*') {
                part.add(leaf(STAR, UNNAMED));
                return whole(tree);
            }
            return whole(withPiece(part, CLOSED_TERM, 1) == null ? null : tree);
        }

        Node readProgram() {
            Node tree = new Node(LIST, UNNAMED, 0);
            if (!readVariables(tree, MOST_PROGRAM_PARAMETERS, '=')) {
                return null;
            }
            return whole(withPiece(tree, CODE, 1));
        }

        private boolean readParts(Node tree) {
            if (take('>')) {
                return true;
            }
            for (int i = 1; i <= MOST_PARTS; i++) {
                Node part = readPart();
                if (part == null) {
                    return false;
                }
                tree.add(part);
                if (take('>')) {
                    return true;
                }
                if (i == MOST_PARTS || !take(',')) {
                    return false;
                }
            }
            return false;
        }

        private Node readPart() {
            char c = peek();
            if (c == '#' || isLetter(c)) {
                return withPiece(new Node(PARAMETER, UNNAMED, at), CLOSED_TERM, 1);
            }
            if (isVariable(c)) {
                Node named = leaf(PARAMETER, c);
                return take(':') ? withPiece(named, CLOSED_TERM, 1) : null;
            }
            if (!take('?') || !isLetter(peek())) {
                return null;
            }
            Node condition = leaf(CONDITION, peek());
            boolean begun = take('(') && readPieces(condition, CLOSED_TERM, 1, ')') && take('=');
            return begun ? withPiece(condition, CLOSED_TERM, 1) : null;
        }

        private Node piece(int grammar, int depth) {
            char c = peek();
            if (isVariable(c)) {
                return leaf(VARIABLE, c);
            }
            if (isDigit(c)) {
                return leaf(NUMBER, c - '0');
            }
            if (isLetter(c)) {
                return readApplication(grammar, depth);
            }
            if (grammar == CODE) {
                return readSignedCode(c, depth);
            }
            if (c == '#') {
                return leaf(HASH, UNNAMED);
            }
            return c == '_' && grammar == OPEN_TERM ? leaf(HOLE, UNNAMED) : null;
        }

        private Node readApplication(int grammar, int depth) {
            Node used = leaf(LETTER, peek());
            int deepest = grammar == CODE ? CODE_DEPTH : TERM_DEPTH;
            if (depth >= deepest || !take('(')) {
                return used;
            }
            return readPieces(used, grammar, depth + 1, ')') ? used : null;
        }

        private Node readSignedCode(char sign, int depth) {
            if (sign == '~') {
                return leaf(FAILURE, UNNAMED);
            }
            if (depth >= CODE_DEPTH) {
                return null;
            }
            switch (sign) {
                case '+':
                    return readSum(leaf(PLUS, UNNAMED), depth + 1);
                case '-':
                    return readSum(leaf(MINUS, UNNAMED), depth + 1);
                case '{':
                    return readMatch(leaf(MATCH, UNNAMED), depth + 1);
                case '[':
                    return readChoice(depth + 1);
                default:
                    return null;
            }
        }

        private Node readSum(Node sum, int depth) {
            return withPiece(withPiece(sum, CODE, depth), CODE, depth);
        }

        private Node readMatch(Node match, int depth) {
            if (withPiece(match, CODE, depth) == null || !take('|')) {
                return null;
            }
            for (int i = 1; i <= MOST_CASES; i++) {
                Node branch = readCase(depth);
                if (branch == null) {
                    return null;
                }
                match.add(branch);
                if (take('}')) {
                    return match;
                }
                if (i == MOST_CASES || !take('|')) {
                    return null;
                }
            }
            return null;
        }

        private Node readCase(int depth) {
            Node branch = new Node(CASE, UNNAMED, at);
            Node pattern = readPatternHead();
            if (pattern == null) {
                return null;
            }
            branch.add(pattern);
            if (pattern.sort == LETTER && take('(') && !readVariables(pattern, MOST_ARGUMENTS, ')')) {
                return null;
            }
            return take('>') ? withPiece(branch, CODE, depth) : null;
        }

        private Node readPatternHead() {
            char c = peek();
            if (c == '_') {
                return leaf(HOLE, UNNAMED);
            }
            if (isDigit(c)) {
                return leaf(NUMBER, c - '0');
            }
            return isLetter(c) ? leaf(LETTER, c) : null;
        }

        private Node readChoice(int depth) {
            int start = at;
            if (!take('[')) {
                return null;
            }
            Node left = piece(CODE, depth);
            boolean less = left != null && peek() == '<';
            if (left == null || !take(less ? '<' : '=')) {
                return null;
            }
            Node choice = new Node(less ? LESS : EQUAL, UNNAMED, start);
            choice.add(left);
            boolean full = withPiece(choice, CODE, depth) != null && take('?')
                    && withPiece(choice, CODE, depth) != null && take(':')
                    && withPiece(choice, CODE, depth) != null && take(']');
            return full ? choice : null;
        }

        /** One to six pieces and the character behind them; END is that of the text's end, which stays. */
        private boolean readPieces(Node into, int grammar, int depth, char closing) {
            for (int i = 1; i <= MOST_ARGUMENTS; i++) {
                if (withPiece(into, grammar, depth) == null) {
                    return false;
                }
                if (peek() == closing) {
                    return closing == END || take(closing);
                }
            }
            return false;
        }

        private boolean readVariables(Node into, int most, char closing) {
            for (int i = 1; i <= most; i++) {
                char c = peek();
                if (!isVariable(c)) {
                    return false;
                }
                into.add(leaf(VARIABLE, c));
                if (take(closing)) {
                    return true;
                }
            }
            return false;
        }

        private Node withPiece(Node into, int grammar, int depth) {
            if (into == null) {
                return null;
            }
            Node read = piece(grammar, depth);
            if (read == null) {
                return null;
            }
            into.add(read);
            return into;
        }

        private Node whole(Node tree) {
            return at == end ? tree : null;
        }

        private Node leaf(int sort, int symbol) {
            Node made = new Node(sort, symbol, at);
            at++;
            return made;
        }

        private char peek() {
            return at >= 0 && at < end ? text[at] : END;
        }

        private boolean take(char c) {
            boolean there = peek() == c;
            if (there) {
                at++;
            }
            return there;
        }
    }

    /**
     * The values of one call, all in one row: a value is the place where it begins there, with its sort, its
     * datum (number, letter, what a hole has), how many arguments it has, and these.
     */
    static final class Values {
        private static final int DATUM = 1;
        private static final int COUNT = 2;
        private static final int HEAD = 3;
        private final Row row;
        private final Row waiting;
        private final Row pairs;
        private final char[] draft;
        private int draftSize;

        Values() {
            row = new Row(512);
            waiting = new Row(64);
            pairs = new Row(64);
            draft = new char[PAGE_LIMIT + 1];
            draftSize = 0;
        }

        void clear() {
            row.cut(0);
        }

        int sortOf(int value) {
            return row.get(value);
        }

        int datumOf(int value) {
            return row.get(value + DATUM);
        }

        int countOf(int value) {
            return row.get(value + COUNT);
        }

        int argumentOf(int value, int index) {
            return row.get(value + HEAD + index);
        }

        int makeSimple(int sort, int datum) {
            int made = row.size();
            row.push(sort);
            row.push(datum);
            row.push(0);
            return made;
        }

        int makeHole() {
            return makeSimple(HOLE, NONE);
        }

        /** A name is told from all others by the place where it was made. */
        int makeName() {
            return makeSimple(VARIABLE, row.size());
        }

        /** The arguments are what lies in the bindings from a place on. */
        int makeConstant(int letter, Bindings arguments, int from) {
            int made = makeSimple(LETTER, letter);
            int count = arguments.size() - from;
            row.set(made + COUNT, count);
            for (int i = 0; i < count; i++) {
                row.push(arguments.valueAt(from + i));
            }
            return made;
        }

        int lookThrough(int value) {
            int seen = value;
            for (int i = 0; i < row.size() && row.get(seen) == HOLE && row.get(seen + DATUM) != NONE; i++) {
                seen = row.get(seen + DATUM);
            }
            return seen;
        }

        boolean isOpenHole(int seen) {
            return row.get(seen) == HOLE;
        }

        /** Whether the value has no more nodes than a value may have, and the hole (or NONE) is none of them. */
        boolean isSmallWithout(int value, int hole) {
            waiting.cut(0);
            waiting.push(value);
            for (int nodes = 0; nodes < NODE_LIMIT; nodes++) {
                if (waiting.size() == 0) {
                    return true;
                }
                int seen = lookThrough(waiting.pop());
                if (seen == hole) {
                    return false;
                }
                for (int i = countOf(seen) - 1; i >= 0; i--) {
                    waiting.push(argumentOf(seen, i));
                }
            }
            return waiting.size() == 0;
        }

        boolean makeSame(int left, int right) {
            startPairs(left, right);
            for (int looked = 0; looked < PAIR_LIMIT; looked++) {
                if (pairs.size() == 0) {
                    return true;
                }
                int second = lookThrough(pairs.pop());
                int first = lookThrough(pairs.pop());
                if (isOpenHole(first) || isOpenHole(second)) {
                    if (!fillOneOf(first, second)) {
                        return false;
                    }
                } else if (haveSameHead(first, second)) {
                    pushArgumentPairs(first, second);
                } else {
                    return false;
                }
            }
            return pairs.size() == 0;
        }

        /** One of the two at least is a hole without a value. */
        private boolean fillOneOf(int first, int second) {
            int hole = isOpenHole(first) ? first : second;
            int value = hole == first ? second : first;
            if (value == hole) {
                return true;
            }
            if (sortOf(value) == LETTER && !isSmallWithout(value, hole)) {
                return false;
            }
            row.set(hole + DATUM, value);
            return true;
        }

        /** 1 when two values are equal, 0 when they are not, NONE when that can't be told. */
        int compare(int left, int right) {
            startPairs(left, right);
            for (int looked = 0; looked < PAIR_LIMIT; looked++) {
                if (pairs.size() == 0) {
                    return 1;
                }
                int second = lookThrough(pairs.pop());
                int first = lookThrough(pairs.pop());
                if (isOpenHole(first) || isOpenHole(second)) {
                    return NONE;
                }
                if (!haveSameHead(first, second)) {
                    return 0;
                }
                pushArgumentPairs(first, second);
            }
            return pairs.size() == 0 ? 1 : NONE;
        }

        private boolean haveSameHead(int first, int second) {
            return row.get(first) == row.get(second) && row.get(first + DATUM) == row.get(second + DATUM)
                    && row.get(first + COUNT) == row.get(second + COUNT);
        }

        private void startPairs(int left, int right) {
            pairs.cut(0);
            pairs.push(left);
            pairs.push(right);
        }

        /** The last arguments go in first, so that the first ones come out first. */
        private void pushArgumentPairs(int first, int second) {
            for (int i = HEAD + row.get(first + COUNT) - 1; i >= HEAD; i--) {
                pairs.push(row.get(first + i));
                pairs.push(row.get(second + i));
            }
        }

        /**
         * Writes the value as a draft and answers its size, which is more than a page holds when it is longer:
         * each turn writes at least one character, so no more turns are needed than that.
         */
        int write(int value) {
            draftSize = 0;
            waiting.cut(0);
            waiting.push(value);
            for (int turn = 0; turn <= PAGE_LIMIT && waiting.size() > 0; turn++) {
                int next = waiting.pop();
                if (next == NONE) {
                    put(')');
                } else {
                    writeHead(lookThrough(next));
                }
            }
            return draftSize;
        }

        char written(int index) {
            return index >= 0 && index < draftSize ? draft[index] : ' ';
        }

        private void writeHead(int seen) {
            switch (sortOf(seen)) {
                case NUMBER:
                    writeNumber(datumOf(seen));
                    break;
                case LETTER:
                    writeConstant(seen);
                    break;
                case HASH:
                    put('#');
                    break;
                case STAR:
                    put('*');
                    break;
                default:
                    put('_');
                    break;
            }
        }

        /** Leaves the arguments to be written, and behind them a NONE for the bracket that closes them. */
        private void writeConstant(int seen) {
            put((char) datumOf(seen));
            if (countOf(seen) == 0) {
                return;
            }
            put('(');
            waiting.push(NONE);
            for (int i = countOf(seen) - 1; i >= 0; i--) {
                waiting.push(argumentOf(seen, i));
            }
        }

        private void writeNumber(int number) {
            long rest = number;
            if (rest < 0) {
                put('-');
                rest = -rest;
            }
            long unit = 1;
            for (long next = 10; next <= rest; next *= 10) {
                unit = next;
            }
            for (; unit > 0; unit /= 10) {
                put((char) ('0' + rest / unit % 10));
            }
        }

        private void put(char c) {
            if (draftSize < draft.length) {
                draft[draftSize] = c;
                draftSize++;
            }
        }

        /** The value as nodes, which outlive the call; none is deeper than a page can show. */
        Node keep(int value, int depth) {
            int seen = lookThrough(value);
            if (depth > KEPT_DEPTH) {
                return new Node(HOLE, UNNAMED, 0);
            }
            Node kept = new Node(sortOf(seen), datumOf(seen), 0);
            for (int i = 0; i < countOf(seen); i++) {
                kept.add(keep(argumentOf(seen, i), depth + 1));
            }
            return kept;
        }
    }

    /** Runs programs; NONE is what a code gives that fails. */
    static final class Runner {
        private final Dictionary dictionary;
        private final Values values;
        private final Bindings bindings;
        private int stepsOfRun;
        private int stepsOfCall;

        Runner(Dictionary dictionary, Values values, Bindings bindings) {
            this.dictionary = dictionary;
            this.values = values;
            this.bindings = bindings;
            stepsOfRun = 0;
            stepsOfCall = 0;
        }

        void forgetSteps() {
            stepsOfCall = 0;
        }

        int allSteps() {
            return stepsOfCall;
        }

        /** Runs the program with the bindings from a place on, which are gone then. */
        int carryOut(int letter, int from) {
            Entry program = dictionary.find(letter);
            if (program == null) {
                return NONE;
            }
            stepsOfRun = 0;
            nameArguments(program, from);
            int given = work(program.tree.last, 1, from);
            bindings.cut(from);
            stepsOfCall += stepsOfRun;
            return given;
        }

        private void nameArguments(Entry program, int from) {
            int index = from;
            for (Node name = program.tree.first; name != null && name != program.tree.last; name = name.next) {
                bindings.rename(index, name.symbol);
                index++;
            }
        }

        private int work(Node code, int depth, int frame) {
            if (code == null || stepsOfRun >= STEP_LIMIT || depth > WORK_DEPTH) {
                return NONE;
            }
            stepsOfRun++;
            switch (code.sort) {
                case VARIABLE:
                    return bindings.valueOf(code.symbol, frame);
                case NUMBER:
                    return values.makeSimple(NUMBER, code.symbol);
                case LETTER:
                    return apply(code, depth, frame);
                case PLUS:
                case MINUS:
                    return reckon(code, depth, frame);
                case MATCH:
                    return match(code, depth, frame);
                case EQUAL:
                case LESS:
                    return choose(code, depth, frame);
                default:
                    return NONE;
            }
        }

        private int apply(Node code, int depth, int frame) {
            Entry entry = dictionary.find(code.symbol);
            int from = bindings.size();
            for (Node part = code.first; part != null; part = part.next) {
                int argument = work(part, depth + 1, frame);
                if (argument == NONE) {
                    return NONE;
                }
                bindings.pushUnnamed(argument);
            }
            if (entry != null && entry.isProgram) {
                nameArguments(entry, from);
                int given = work(entry.tree.last, depth + 1, from);
                bindings.cut(from);
                return given;
            }
            int made = values.makeConstant(code.symbol, bindings, from);
            bindings.cut(from);
            return values.isSmallWithout(made, NONE) ? made : NONE;
        }

        private int reckon(Node code, int depth, int frame) {
            int left = workAndLook(code.first, depth + 1, frame);
            int right = left == NONE ? NONE : workAndLook(code.last, depth + 1, frame);
            if (!areNumbers(left, right)) {
                return NONE;
            }
            int a = values.datumOf(left);
            int b = values.datumOf(right);
            return values.makeSimple(NUMBER, code.sort == PLUS ? a + b : a - b);
        }

        private int match(Node code, int depth, int frame) {
            Node matched = code.first;
            int subject = workAndLook(matched, depth + 1, frame);
            if (matched == null || subject == NONE || values.isOpenHole(subject)) {
                return NONE;
            }
            for (Node branch = matched.next; branch != null; branch = branch.next) {
                if (fits(branch.first, subject)) {
                    int from = bindings.size();
                    bindVariables(branch.first, subject);
                    int given = work(branch.last, depth + 1, frame);
                    bindings.cut(from);
                    return given;
                }
            }
            return NONE;
        }

        private boolean fits(Node pattern, int subject) {
            return pattern.sort == HOLE
                    || pattern.sort == values.sortOf(subject) && pattern.symbol == values.datumOf(subject);
        }

        private void bindVariables(Node pattern, int subject) {
            int index = 0;
            for (Node variable = pattern.first; variable != null; variable = variable.next) {
                bindings.push(variable.symbol, values.argumentOf(subject, index), NONE);
                index++;
            }
        }

        private int choose(Node code, int depth, int frame) {
            Node first = code.first;
            Node second = first == null ? null : first.next;
            int left = workAndLook(first, depth + 1, frame);
            int right = left == NONE ? NONE : workAndLook(second, depth + 1, frame);
            boolean less = code.sort == LESS;
            if (second == null || right == NONE || less && !areNumbers(left, right)) {
                return NONE;
            }
            int holds = less ? isLess(left, right) : values.compare(left, right);
            if (holds == NONE) {
                return NONE;
            }
            return work(holds == 1 ? second.next : code.last, depth + 1, frame);
        }

        private int isLess(int left, int right) {
            return values.datumOf(left) < values.datumOf(right) ? 1 : 0;
        }

        private boolean areNumbers(int left, int right) {
            return left != NONE && right != NONE
                    && values.sortOf(left) == NUMBER && values.sortOf(right) == NUMBER;
        }

        private int workAndLook(Node code, int depth, int frame) {
            int given = work(code, depth, frame);
            return given == NONE ? NONE : values.lookThrough(given);
        }
    }

    /** Finds the types of terms; NONE is the type of what has none, and the wrong's place is held then. */
    static final class Typer {
        private final Dictionary dictionary;
        private final Values values;
        private final Bindings bindings;
        private final Runner runner;
        private boolean declaring;
        private int namesEnd;
        private int wrongPlace;
        private int latestValue;

        Typer(Dictionary dictionary, Values values, Bindings bindings, Runner runner) {
            this.dictionary = dictionary;
            this.values = values;
            this.bindings = bindings;
            this.runner = runner;
            declaring = false;
            namesEnd = 0;
            wrongPlace = NONE;
            latestValue = NONE;
        }

        int wrongPlace() {
            return wrongPlace;
        }

        int typeAlone(Node term) {
            begin(false);
            return typeOf(term);
        }

        /** The place of the first wrong of a run's terms, or NONE; their values are then bound. */
        int wrongInArguments(Node terms) {
            begin(false);
            for (Node term = terms.first; term != null; term = term.next) {
                if (typeOf(term) == NONE) {
                    return wrongPlace;
                }
                bindings.pushUnnamed(latestValue);
            }
            return NONE;
        }

        int wrongInDeclaration(Node tree) {
            begin(true);
            for (Node part = tree.first; part != null; part = part.next) {
                boolean isCondition = part.sort == CONDITION;
                if (isCondition && !fitsItsProgram(part)) {
                    return part.place;
                }
                for (Node term = part.first; term != null; term = term.next) {
                    int found = typeOf(term);
                    if (found == NONE) {
                        return wrongPlace;
                    }
                    if (!isCondition && !isStar(found)) {
                        return term.place;
                    }
                }
                if (part.sort == PARAMETER) {
                    learnName(part.symbol);
                }
            }
            return NONE;
        }

        private void begin(boolean forDeclaration) {
            declaring = forDeclaration;
            namesEnd = 0;
            wrongPlace = NONE;
        }

        private boolean fitsItsProgram(Node condition) {
            Entry entry = dictionary.find(condition.symbol);
            return entry != null && entry.isProgram && entry.parameterCount == condition.count - 1;
        }

        /** The parameter's term is what was looked at last, so its value is the name's type. */
        private void learnName(int name) {
            bindings.push(name, values.makeName(), latestValue);
            namesEnd = bindings.size();
        }

        private boolean isStar(int found) {
            return values.sortOf(found) == STAR;
        }

        private int typeOf(Node term) {
            switch (term.sort) {
                case NUMBER:
                    latestValue = values.makeSimple(NUMBER, term.symbol);
                    return values.makeSimple(HASH, UNNAMED);
                case HASH:
                case STAR:
                    latestValue = values.makeSimple(term.sort, UNNAMED);
                    return values.makeSimple(STAR, UNNAMED);
                case VARIABLE:
                    return typeOfVariable(term);
                case LETTER:
                    return typeOfConstant(term);
                default:
                    return noType(term.place);
            }
        }

        private int noType(int place) {
            wrongPlace = place;
            return NONE;
        }

        private int typeOfVariable(Node term) {
            int index = bindings.indexOf(term.symbol, 0, namesEnd);
            if (index == NONE) {
                return noType(term.place);
            }
            latestValue = bindings.valueAt(index);
            return bindings.typeAt(index);
        }

        /** The arguments' values are gathered as a frame, in which the constant's own terms find its names. */
        private int typeOfConstant(Node term) {
            Entry entry = dictionary.findConstant(term);
            if (entry == null || declaring && entry.hasConditions) {
                return noType(term.place);
            }
            int frame = bindings.size();
            Node argument = term.first;
            for (Node part = entry.tree.first; part != null && part != entry.tree.last; part = part.next) {
                if (part.sort == CONDITION) {
                    int given = runner.carryOut(part.symbol, bindTerms(part, frame));
                    if (given == NONE || !values.makeSame(given, valueBy(part.last, frame))) {
                        return noType(term.place);
                    }
                } else if (argument != null && takeArgument(part, argument, frame)) {
                    argument = argument.next;
                } else {
                    return NONE;
                }
            }
            int found = valueBy(entry.tree.last.first, frame);
            latestValue = values.makeConstant(term.symbol, bindings, frame);
            bindings.cut(frame);
            return found;
        }

        private boolean takeArgument(Node parameter, Node argument, int frame) {
            if (argument.sort == HOLE) {
                bindings.push(parameter.symbol, values.makeHole(), NONE);
                return true;
            }
            int found = typeOf(argument);
            if (found == NONE) {
                return false;
            }
            int value = latestValue;
            if (isStar(found) || !values.makeSame(found, valueBy(parameter.first, frame))) {
                wrongPlace = argument.place;
                return false;
            }
            bindings.push(parameter.symbol, value, NONE);
            return true;
        }

        /** Binds what a condition's program runs with, and answers from where on. */
        private int bindTerms(Node condition, int frame) {
            int from = bindings.size();
            for (Node term = condition.first; term != null && term != condition.last; term = term.next) {
                bindings.pushUnnamed(valueBy(term, frame));
            }
            return from;
        }

        /** The value of a constant's own term by the names of a frame. */
        private int valueBy(Node term, int frame) {
            if (term.sort == VARIABLE) {
                return bindings.valueOf(term.symbol, frame);
            }
            if (term.sort != LETTER) {
                return values.makeSimple(term.sort, term.symbol);
            }
            int from = bindings.size();
            for (Node part = term.first; part != null; part = part.next) {
                bindings.pushUnnamed(valueBy(part, frame));
            }
            int made = values.makeConstant(term.symbol, bindings, from);
            bindings.cut(from);
            return made;
        }
    }

    /** Looks whether a program is right; the bindings hold the variables that are known. */
    static final class CodeInspector {
        private final Dictionary dictionary;
        private final Bindings bindings;

        CodeInspector(Dictionary dictionary, Bindings bindings) {
            this.dictionary = dictionary;
            this.bindings = bindings;
        }

        int wrongInProgram(Entry program) {
            for (Node name = program.tree.first; name != null && name != program.tree.last; name = name.next) {
                know(name);
            }
            return wrongIn(program.tree.last, program);
        }

        private void know(Node variable) {
            bindings.push(variable.symbol, NONE, NONE);
        }

        private int wrongIn(Node code, Entry program) {
            if (code.sort == CASE) {
                return wrongInCase(code, program);
            }
            if (code.sort == VARIABLE && bindings.indexOf(code.symbol, 0, bindings.size()) == NONE) {
                return code.place;
            }
            if (code.sort == LETTER && !mayBeUsed(code, program)) {
                return code.place;
            }
            for (Node part = code.first; part != null; part = part.next) {
                int wrong = wrongIn(part, program);
                if (wrong != NONE) {
                    return wrong;
                }
            }
            return NONE;
        }

        private boolean mayBeUsed(Node code, Entry program) {
            Entry entry = code.symbol == program.letter ? program : dictionary.find(code.symbol);
            return entry != null && entry.parameterCount == code.count;
        }

        private int wrongInCase(Node branch, Entry program) {
            Node pattern = branch.first;
            if (pattern.sort == LETTER && dictionary.findConstant(pattern) == null) {
                return pattern.place;
            }
            int from = bindings.size();
            for (Node variable = pattern.first; variable != null; variable = variable.next) {
                know(variable);
            }
            int wrong = wrongIn(branch.last, program);
            bindings.cut(from);
            return wrong;
        }
    }
}
