import java.util.ArrayDeque;
import java.util.ArrayList;
import java.util.HashMap;
import java.util.IdentityHashMap;
import java.util.List;
import java.util.Map;

/** A second program after the same document, which follows its words with no regard to cost. */
final class Model {
    static final class Wrong extends RuntimeException {
        final int place;

        Wrong(int place) {
            super(null, null, false, false);
            this.place = place;
        }
    }

    static final class Fails extends RuntimeException {
        Fails() {
            super(null, null, false, false);
        }
    }

    /** What stands at a place of a text. */
    static final class Piece {
        final char head;
        final int place;
        final List<Piece> parts = new ArrayList<>();
        boolean less;

        Piece(char head, int place) {
            this.head = head;
            this.place = place;
        }
    }

    static final class Part {
        char name;
        Piece term;
        char programLetter;
        int programPlace;
        List<Piece> terms;
    }

    static final class Thing {
        char letter;
        boolean isProgram;
        List<Part> parts = new ArrayList<>();
        Piece result;
        Value resultValue;
        boolean star;
        List<Character> names = new ArrayList<>();
        Piece code;

        int parameters() {
            if (isProgram) {
                return names.size();
            }
            int n = 0;
            for (Part part : parts) {
                n += part.terms == null ? 1 : 0;
            }
            return n;
        }

        boolean conditioned() {
            return parts.size() > parameters();
        }
    }

    /** A number, #, *, a hole, a constant or a name. */
    static final class Value {
        final char sort;
        int number;
        char letter;
        List<Value> arguments = new ArrayList<>();
        Value filled;

        Value(char sort) {
            this.sort = sort;
        }

        Value seen() {
            return filled == null ? this : filled.seen();
        }
    }

    private final StringBuilder text = new StringBuilder();
    private String page = "";
    private Value result;
    private final Map<Character, Thing> things = new HashMap<>();
    private final ArrayDeque<Thing> order = new ArrayDeque<>();
    private int steps;
    private String reading = "";
    private int at;

    // ---- the calls

    boolean type(char c) {
        if (c < 32 || c > 126 || text.length() == 80) {
            return false;
        }
        text.append(c);
        return true;
    }

    int wipe() {
        int n = text.length();
        text.setLength(0);
        return n;
    }

    int declare(char letter) {
        refuse(letter);
        String line = taken();
        int fault = Grammar.fault(Grammar.DECLARATION, line);
        if (fault >= 0) {
            return -1 - fault;
        }
        Thing thing = readDeclaration(line);
        thing.letter = letter;
        try {
            lookAtDeclaration(thing);
        } catch (Wrong wrong) {
            return -100 - wrong.place;
        }
        enter(thing);
        return thing.parameters();
    }

    int program(char letter) {
        refuse(letter);
        String line = taken();
        int fault = Grammar.fault(Grammar.PROGRAM, line);
        if (fault >= 0) {
            return -1 - fault;
        }
        Thing thing = new Thing();
        thing.letter = letter;
        thing.isProgram = true;
        start(line);
        while (now() != '=') {
            thing.names.add(next());
        }
        next();
        thing.code = readCode();
        try {
            lookAtCode(thing.code, thing, thing.names);
        } catch (Wrong wrong) {
            return -100 - wrong.place;
        }
        enter(thing);
        return thing.names.size();
    }

    int check() {
        steps = 0;
        result = null;
        String line = taken();
        int fault = Grammar.fault(Grammar.TERM, line);
        if (fault >= 0) {
            return -1 - fault;
        }
        start(line);
        try {
            Value type = typed(readTerm(), List.of(), false)[1];
            String written = write(type);
            if (written == null) {
                return -200;
            }
            page = written;
            result = type;
            return page.length();
        } catch (Wrong wrong) {
            return -100 - wrong.place;
        }
    }

    void lemma(char letter) {
        refuse(letter);
        if (result == null || page(result).contains("_")) {
            throw new IllegalStateException();
        }
        Thing thing = new Thing();
        thing.letter = letter;
        thing.resultValue = result;
        thing.star = result.seen().sort == '*';
        enter(thing);
    }

    char retract() {
        if (order.isEmpty()) {
            throw new IllegalStateException();
        }
        result = null;
        char letter = order.removeLast().letter;
        things.remove(letter);
        return letter;
    }

    int run(char letter) {
        Thing thing = things.get(letter);
        if (thing == null || !thing.isProgram) {
            throw new IllegalArgumentException();
        }
        steps = 0;
        String line = taken();
        int fault = Grammar.fault(Grammar.TERMS, line);
        if (fault >= 0) {
            return -1 - fault;
        }
        start(line);
        List<Piece> terms = new ArrayList<>();
        while (at < line.length()) {
            terms.add(readTerm());
        }
        if (terms.size() != thing.names.size()) {
            return -100;
        }
        try {
            List<Value> given = new ArrayList<>();
            for (Piece term : terms) {
                given.add(typed(term, List.of(), false)[0]);
            }
            String written = write(new Run().start(thing, given));
            if (written == null) {
                return -200;
            }
            page = written;
            return page.length();
        } catch (Wrong wrong) {
            return -100 - wrong.place;
        } catch (Fails fails) {
            return -300;
        }
    }

    int steps() {
        return steps;
    }

    int kind(char letter) {
        Thing thing = things.get(letter);
        return thing == null ? 0 : thing.isProgram ? 2 : 1;
    }

    int parameters(char letter) {
        Thing thing = things.get(letter);
        return thing == null ? -1 : thing.parameters();
    }

    String page() {
        return page;
    }

    /** What the constant's type begins with, for those who make texts up. */
    char headOf(char letter) {
        Thing thing = things.get(letter);
        if (thing == null || thing.isProgram) {
            return ' ';
        }
        if (thing.star) {
            return '*';
        }
        if (thing.resultValue == null) {
            return thing.result.head;
        }
        Value seen = thing.resultValue.seen();
        return seen.sort == 'c' ? seen.letter : seen.sort;
    }

    /** What the types of the constant's parameters begin with. */
    String headsOfParameters(char letter) {
        StringBuilder heads = new StringBuilder();
        for (Part part : things.get(letter).parts) {
            if (part.terms == null) {
                heads.append(part.term.head);
            }
        }
        return heads.toString();
    }

    private void refuse(char letter) {
        if (letter < 'A' || letter > 'Z') {
            throw new IllegalArgumentException();
        }
        if (things.containsKey(letter)) {
            throw new IllegalStateException();
        }
    }

    private void enter(Thing thing) {
        things.put(thing.letter, thing);
        order.addLast(thing);
    }

    private String taken() {
        String line = text.toString();
        text.setLength(0);
        return line;
    }

    // ---- reading what the grammar has let through

    private void start(String line) {
        reading = line;
        at = 0;
    }

    private char now() {
        return at < reading.length() ? reading.charAt(at) : 0;
    }

    private char next() {
        return reading.charAt(at++);
    }

    private Piece readTerm() {
        Piece piece = new Piece(now(), at);
        next();
        if (now() == '(' && Character.isUpperCase(piece.head)) {
            next();
            while (now() != ')') {
                piece.parts.add(readTerm());
            }
            next();
        }
        return piece;
    }

    private Thing readDeclaration(String line) {
        start(line);
        Thing thing = new Thing();
        while (now() != '>') {
            if (now() == ',') {
                next();
            }
            thing.parts.add(readPart());
        }
        next();
        if (now() == '*') {
            thing.star = true;
        } else {
            thing.result = readTerm();
        }
        return thing;
    }

    private Part readPart() {
        Part part = new Part();
        if (now() == '?') {
            next();
            part.programPlace = at;
            part.programLetter = next();
            part.terms = new ArrayList<>();
            next();
            while (now() != ')') {
                part.terms.add(readTerm());
            }
            next();
            next();
            part.term = readTerm();
            return part;
        }
        if (Character.isLowerCase(now())) {
            part.name = next();
            next();
        }
        part.term = readTerm();
        return part;
    }

    private Piece readCode() {
        Piece piece = new Piece(next(), at - 1);
        switch (piece.head) {
            case '+', '-' -> {
                piece.parts.add(readCode());
                piece.parts.add(readCode());
            }
            case '{' -> {
                piece.parts.add(readCode());
                while (next() == '|') {
                    piece.parts.add(readTerm());
                    next();
                    piece.parts.add(readCode());
                }
            }
            case '[' -> {
                piece.parts.add(readCode());
                piece.less = next() == '<';
                for (int i = 0; i < 3; i++) {
                    piece.parts.add(readCode());
                    next();
                }
            }
            default -> {
                if (Character.isUpperCase(piece.head) && now() == '(') {
                    next();
                    while (now() != ')') {
                        piece.parts.add(readCode());
                    }
                    next();
                }
            }
        }
        return piece;
    }

    // ---- right and wrong

    record Name(char letter, Value value, Value type) { }

    private static Name find(List<Name> names, char letter) {
        for (int i = names.size() - 1; i >= 0; i--) {
            if (names.get(i).letter == letter) {
                return names.get(i);
            }
        }
        return null;
    }

    private void lookAtDeclaration(Thing thing) {
        List<Name> names = new ArrayList<>();
        for (Part part : thing.parts) {
            if (part.terms == null) {
                Value[] typed = mustBeStar(part.term, names);
                if (part.name != 0) {
                    names.add(new Name(part.name, new Value('n'), typed[0]));
                }
                continue;
            }
            Thing program = things.get(part.programLetter);
            if (program == null || !program.isProgram || program.names.size() != part.terms.size()) {
                throw new Wrong(part.programPlace);
            }
            for (Piece term : part.terms) {
                typed(term, names, true);
            }
            typed(part.term, names, true);
        }
        if (!thing.star) {
            mustBeStar(thing.result, names);
        }
    }

    private Value[] mustBeStar(Piece term, List<Name> names) {
        Value[] typed = typed(term, names, true);
        if (typed[1].sort != '*') {
            throw new Wrong(term.place);
        }
        return typed;
    }

    private void lookAtCode(Piece code, Thing self, List<Character> known) {
        if (Character.isLowerCase(code.head) && !known.contains(code.head)) {
            throw new Wrong(code.place);
        }
        if (Character.isUpperCase(code.head)) {
            Thing used = code.head == self.letter ? self : things.get(code.head);
            if (used == null || used.parameters() != code.parts.size()) {
                throw new Wrong(code.place);
            }
        }
        if (code.head != '{') {
            for (Piece part : code.parts) {
                lookAtCode(part, self, known);
            }
            return;
        }
        lookAtCode(code.parts.get(0), self, known);
        for (int i = 1; i < code.parts.size(); i += 2) {
            Piece pattern = code.parts.get(i);
            if (Character.isUpperCase(pattern.head)) {
                Thing used = things.get(pattern.head);
                if (used == null || used.isProgram || used.parameters() != pattern.parts.size()) {
                    throw new Wrong(pattern.place);
                }
            }
            List<Character> more = new ArrayList<>(known);
            for (Piece variable : pattern.parts) {
                more.add(variable.head);
            }
            lookAtCode(code.parts.get(i + 1), self, more);
        }
    }

    /** The value and the type of a term. */
    private Value[] typed(Piece term, List<Name> names, boolean declaring) {
        char head = term.head;
        if (Character.isDigit(head)) {
            return new Value[] {number(head - '0'), new Value('#')};
        }
        if (head == '#') {
            return new Value[] {new Value('#'), new Value('*')};
        }
        if (Character.isLowerCase(head)) {
            Name name = find(names, head);
            if (name == null) {
                throw new Wrong(term.place);
            }
            return new Value[] {name.value, name.type};
        }
        if (head == '_') {
            throw new Wrong(term.place);
        }
        Thing constant = things.get(head);
        if (constant == null || constant.isProgram || constant.parameters() != term.parts.size()
                || declaring && constant.conditioned()) {
            throw new Wrong(term.place);
        }
        return typedConstant(term, constant, names, declaring);
    }

    private Value[] typedConstant(Piece term, Thing constant, List<Name> names, boolean declaring) {
        List<Name> own = new ArrayList<>();
        Value value = new Value('c');
        value.letter = term.head;
        for (Part part : constant.parts) {
            if (part.terms != null) {
                lookAtCondition(part, own, term.place);
                continue;
            }
            Piece argument = term.parts.get(value.arguments.size());
            Value given;
            if (argument.head == '_') {
                given = new Value('h');
            } else {
                Value[] typed = typed(argument, names, declaring);
                given = typed[0];
                if (typed[1].sort == '*' || !new Sameness().make(typed[1], by(part.term, own))) {
                    throw new Wrong(argument.place);
                }
            }
            value.arguments.add(given);
            own.add(new Name(part.name, given, null));
        }
        Value type = constant.star ? new Value('*')
                : constant.resultValue != null ? constant.resultValue : by(constant.result, own);
        return new Value[] {value, type};
    }

    private void lookAtCondition(Part part, List<Name> own, int place) {
        List<Value> given = new ArrayList<>();
        for (Piece piece : part.terms) {
            given.add(by(piece, own));
        }
        try {
            Value answer = new Run().start(things.get(part.programLetter), given);
            if (!new Sameness().make(answer, by(part.term, own))) {
                throw new Wrong(place);
            }
        } catch (Fails fails) {
            throw new Wrong(place);
        }
    }

    private static Value number(int n) {
        Value value = new Value('i');
        value.number = n;
        return value;
    }

    private static Value by(Piece term, List<Name> names) {
        if (Character.isDigit(term.head)) {
            return number(term.head - '0');
        }
        if (term.head == '#') {
            return new Value('#');
        }
        if (Character.isLowerCase(term.head)) {
            return find(names, term.head).value;
        }
        Value value = new Value('c');
        value.letter = term.head;
        for (Piece part : term.parts) {
            value.arguments.add(by(part, names));
        }
        return value;
    }

    /** How many nodes, but no more than one above the most that matters. */
    private static int nodes(Value value, int most) {
        int n = 1;
        for (Value argument : value.seen().arguments) {
            if (n > most) {
                return n;
            }
            n += nodes(argument, most - n);
        }
        return n;
    }

    private static boolean liesIn(Value hole, Value value, IdentityHashMap<Value, Boolean> done) {
        Value seen = value.seen();
        if (seen == hole) {
            return true;
        }
        if (done.put(seen, true) != null) {
            return false;
        }
        for (Value argument : seen.arguments) {
            if (liesIn(hole, argument, done)) {
                return true;
            }
        }
        return false;
    }

    static final class Sameness {
        private int pairs = 0;

        boolean make(Value a, Value b) {
            pairs++;
            if (pairs > 1000) {
                return false;
            }
            Value x = a.seen();
            Value y = b.seen();
            if (x == y && x.sort == 'h') {
                return true;
            }
            if (x.sort == 'h') {
                return fill(x, y);
            }
            if (y.sort == 'h') {
                return fill(y, x);
            }
            if (x.sort != y.sort) {
                return false;
            }
            switch (x.sort) {
                case 'i':
                    return x.number == y.number;
                case '#':
                    return true;
                case 'n':
                    return x == y;
                case 'c':
                    break;
                default:
                    throw new AssertionError("a star is made the same");
            }
            if (x.letter != y.letter) {
                return false;
            }
            for (int i = 0; i < x.arguments.size(); i++) {
                if (!make(x.arguments.get(i), y.arguments.get(i))) {
                    return false;
                }
            }
            return true;
        }

        private static boolean fill(Value hole, Value value) {
            if (value.sort == 'c' && (liesIn(hole, value, new IdentityHashMap<>()) || nodes(value, 200) > 200)) {
                return false;
            }
            hole.filled = value;
            return true;
        }
    }

    // ---- running

    private final class Run {
        private int made = 0;
        private int pairs = 0;

        Value start(Thing program, List<Value> given) {
            return work(program.code, bind(program, given), 1);
        }

        private List<Name> bind(Thing program, List<Value> given) {
            List<Name> names = new ArrayList<>();
            for (int i = 0; i < given.size(); i++) {
                names.add(new Name(program.names.get(i), given.get(i), null));
            }
            return names;
        }

        private Value work(Piece code, List<Name> names, int depth) {
            if (made == 100 || depth > 30) {
                throw new Fails();
            }
            made++;
            steps++;
            char head = code.head;
            if (Character.isLowerCase(head)) {
                return find(names, head).value;
            }
            if (Character.isDigit(head)) {
                return number(head - '0');
            }
            if (head == '~') {
                throw new Fails();
            }
            if (Character.isUpperCase(head)) {
                return workLetter(code, names, depth);
            }
            Value first = work(code.parts.get(0), names, depth + 1).seen();
            if (head == '{') {
                return workCases(code, first, names, depth);
            }
            Value second = work(code.parts.get(1), names, depth + 1).seen();
            boolean numbers = first.sort == 'i' && second.sort == 'i';
            if (head == '[' && !code.less) {
                pairs = 0;
                boolean same = same(first, second);
                return work(code.parts.get(same ? 2 : 3), names, depth + 1);
            }
            if (!numbers) {
                throw new Fails();
            }
            if (head == '[') {
                return work(code.parts.get(first.number < second.number ? 2 : 3), names, depth + 1);
            }
            return number(head == '+' ? first.number + second.number : first.number - second.number);
        }

        private Value workLetter(Piece code, List<Name> names, int depth) {
            Value made = new Value('c');
            made.letter = code.head;
            for (Piece part : code.parts) {
                made.arguments.add(work(part, names, depth + 1));
            }
            Thing thing = things.get(code.head);
            if (thing.isProgram) {
                return work(thing.code, bind(thing, made.arguments), depth + 1);
            }
            if (nodes(made, 200) > 200) {
                throw new Fails();
            }
            return made;
        }

        private Value workCases(Piece code, Value subject, List<Name> names, int depth) {
            if (subject.sort == 'h') {
                throw new Fails();
            }
            for (int i = 1; i < code.parts.size(); i += 2) {
                Piece pattern = code.parts.get(i);
                boolean fits = pattern.head == '_'
                        || Character.isDigit(pattern.head) && subject.sort == 'i' && subject.number == pattern.head - '0'
                        || subject.sort == 'c' && subject.letter == pattern.head;
                if (fits) {
                    List<Name> more = new ArrayList<>(names);
                    for (int k = 0; k < pattern.parts.size(); k++) {
                        more.add(new Name(pattern.parts.get(k).head, subject.arguments.get(k), null));
                    }
                    return work(code.parts.get(i + 1), more, depth + 1);
                }
            }
            throw new Fails();
        }

        private boolean same(Value a, Value b) {
            pairs++;
            Value x = a.seen();
            Value y = b.seen();
            if (pairs > 1000 || x.sort == 'h' || y.sort == 'h') {
                throw new Fails();
            }
            if (x.sort != y.sort || x.number != y.number || x.letter != y.letter) {
                return false;
            }
            for (int i = 0; i < x.arguments.size(); i++) {
                if (!same(x.arguments.get(i), y.arguments.get(i))) {
                    return false;
                }
            }
            return true;
        }
    }

    // ---- writing

    /** What is written, or null when it has more than a hundred characters. */
    private static String write(Value value) {
        String written = page(value);
        return written.length() > 100 ? null : written;
    }

    private static String page(Value value) {
        StringBuilder out = new StringBuilder();
        write(value, out);
        return out.toString();
    }

    private static void write(Value value, StringBuilder out) {
        if (out.length() > 200) {
            return;
        }
        Value seen = value.seen();
        switch (seen.sort) {
            case 'i' -> out.append(seen.number);
            case 'h' -> out.append('_');
            case 'c' -> {
                out.append(seen.letter);
                if (!seen.arguments.isEmpty()) {
                    out.append('(');
                    for (Value argument : seen.arguments) {
                        write(argument, out);
                    }
                    out.append(')');
                }
            }
            default -> out.append(seen.sort);
        }
    }
}
