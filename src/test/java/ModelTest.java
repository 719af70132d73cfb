import java.util.ArrayList;
import java.util.HashMap;
import java.util.List;
import java.util.Map;
import java.util.Random;

/** Made-up runs of calls, the same ones each time; every answer must be the model's. */
public final class ModelTest {
    private static final int RUNS = 6000;
    private static final int CALLS = 512;
    private static final String ANY = "abcxyzABCDEFT0123#_()>*,:?=+-{}|[]<~ .";

    private static final String[][] WORLDS = {
        {},
        {"dT >*", "dE >T", "dD T,T>T", "dF T>*", "dG a:T,F(a)>F(D(aE))", "dM >F(E)", "dI a:T>F(a)", "pP a=a",
            "pQ a={a|E>D(EE)|D(xy)>x}", "dH a:T,b:T,F(a),?Q(a)=b>F(b)"},
        {"dS #>*", "dB a:#>S(a)", "pF n=[n<1?0:+nF(-n1)]", "dG a:#,b:#,S(a),?F(a)=b>S(b)", "pD a=+aa",
            "dH a:#,b:#,S(a),?D(a)=b>S(b)", "dP #,#>#", "dQ a:#,S(a)>S(P(aa))"},
        {"dT >*", "dE >T", "dU T>T", "dD T,T>T", "dF T>*", "pQ a=D(aa)", "pB a=U(Q(Q(Q(U(Q(Q(Q(U(a)))))))))",
            "dI a:T,?B(E)=a>F(a)", "dO a:T,F(a)>F(U(a))", "dP a:T,F(a)>F(D(aa))", "dV a:T>F(a)", "pC a=Q(Q(Q(Q(a))))"},
        {"dT >*", "dE >T", "dD T,T>T", "dH T,T,T,T,T,T>*", "dG a:T>H(aaaaaa)", "pA a=D(aa)", "pB a=A(A(A(A(A(A(a))))))",
            "dI a:T,?B(a)=a>T", "dJ a:T,b:T,?B(a)=b>H(bbbbbb)", "dK a:T,b:T,H(aaaabb),H(bbbbba)>H(aaabbb)",
            "pC ab=[a=b?1:0]", "dL a:T,b:T,c:#,H(aaaaab),?C(H(aabbaa)H(aaabaa))=c>H(aaaabb)"},
        {"dV >*", "dC >*", "dN >C", "dK V,C>C", "dH C>*", "dA >V", "pJ ab={a|N>b|K(xy)>K(xJ(yb))}",
            "dR a:C,b:C,c:C,H(a),H(b),?J(ab)=c>H(c)", "dP >H(K(AN))", "dQ a:C>H(a)", "pS a={a|N>0|K(xy)>+1S(y)}",
            "dL a:C,H(a),n:#,?S(a)=n>#"},
        {"dT >*", "dX T,T>*", "dF T>T", "dB a:T>X(aa)", "dA a:T,b:T>X(ab)",
            "dC a:T,b:T,X(ab),X(bF(a))>X(ab)", "dG a:T,b:T,X(aF(b)),X(ba)>X(aa)", "dH a:T,b:T,X(ab)>X(F(a)F(b))", "dI a:T,X(aF(a))>T", "dE >T"},
    };

    private final Random random;
    private final Talk talk = new Talk();
    private final Model model = new Model();
    private final StringBuilder story = new StringBuilder();
    private int calls = 0;
    private boolean ok = true;
    private static final Map<String, Integer> SEEN = new HashMap<>();

    private ModelTest(long seed) {
        random = new Random(seed);
    }

    public static void main(String[] args) {
        int good = 0;
        for (int seed = 0; seed < RUNS && seed - good < 5; seed++) {
            ModelTest test = new ModelTest(seed);
            test.play(WORLDS[seed % WORLDS.length]);
            if (test.ok) {
                good++;
            } else {
                System.out.println("run " + seed + ":\n" + test.story);
            }
        }
        Report.due("runs that went as the model's", good, RUNS);
        System.out.println(SEEN);
        for (String must : new String[] {"declare good", "declare fault", "declare wrong", "program good", "program fault",
            "program wrong", "check good", "check fault", "check wrong", "check long", "run good", "run fault",
            "run wrong", "run long", "run failed", "lemma good", "lemma state", "retract good"}) {
            Report.due("seen: " + must, SEEN.getOrDefault(must, 0) > 20 ? 1 : 0, 1);
        }
        Report.finish();
    }

    private void play(String[] world) {
        for (String line : world) {
            write(line.substring(3));
            call(line.charAt(0) == 'd' ? "declare" : "program", line.charAt(1));
        }
        while (calls < CALLS && ok) {
            turn();
        }
    }

    private void turn() {
        int dice = random.nextInt(100);
        if (dice < 40) {
            write(spoiled(term(null, 1, 'o', new ArrayList<>())));
            call("check", ' ');
        } else if (dice < 52) {
            write(spoiled(declaration()));
            call("declare", anyLetter());
        } else if (dice < 62) {
            char letter = anyLetter();
            write(spoiled(program(letter)));
            call("program", letter);
        } else if (dice < 82) {
            char letter = letterOf(2);
            StringBuilder text = new StringBuilder();
            int terms = random.nextInt(12) == 0 ? random.nextInt(8) : model.parameters(letter);
            for (int i = 0; i < terms; i++) {
                text.append(term(null, 1, 'c', new ArrayList<>()));
            }
            write(spoiled(text.toString()));
            call("run", letter);
        } else if (dice < 92) {
            call("lemma", anyLetter());
        } else if (dice < 95) {
            call("retract", ' ');
        } else {
            write(randomText());
            call(new String[] {"wipe", "check", "declare", "program", "run"}[random.nextInt(5)], anyLetter());
        }
    }

    // ---- calls on both

    private void write(String text) {
        String fit = text.length() > 80 ? text.substring(0, 80) : text;
        story.append(fit).append("   ");
        for (int i = 0; i < fit.length() && calls < CALLS; i++) {
            calls++;
            same("type", talk.it.type(fit.charAt(i)) ? 1 : 0, model.type(fit.charAt(i)) ? 1 : 0);
        }
    }

    private void call(String name, char letter) {
        if (calls >= CALLS) {
            return;
        }
        calls++;
        int want = modelAnswer(name, letter);
        int got = answer(name, letter);
        story.append(name).append(' ').append(letter).append(" -> ").append(got).append('\n');
        SEEN.merge(name + " " + shape(want), 1, Integer::sum);
        same(name, got, want);
        same("steps", talk.it.steps(), model.steps());
        same("length", talk.it.length(), model.page().length());
        if (!talk.page().equals(model.page())) {
            ok = false;
            story.append("page ").append(talk.page()).append(", due is ").append(model.page()).append('\n');
        }
        same("kind", talk.it.kind(letter), model.kind(letter));
        same("parameters", talk.it.parameters(letter), model.parameters(letter));
    }

    private static String shape(int answer) {
        if (answer == Talk.ARGUMENT) {
            return "argument";
        }
        if (answer == Talk.STATE) {
            return "state";
        }
        if (answer >= 0) {
            return "good";
        }
        return answer == -300 ? "failed" : answer == -200 ? "long" : answer <= -100 ? "wrong" : "fault";
    }

    private void same(String what, int got, int want) {
        if (got != want) {
            ok = false;
            story.append(what).append(" answered ").append(got).append(", due is ").append(want).append('\n');
        }
    }

    private int answer(String name, char letter) {
        switch (name) {
            case "declare":
                return talk.declare(letter, "");
            case "program":
                return talk.program(letter, "");
            case "check":
                return talk.check("");
            case "run":
                return talk.run(letter, "");
            case "lemma":
                return talk.lemma(letter);
            case "retract":
                return talk.retract();
            default:
                return talk.it.wipe();
        }
    }

    private int modelAnswer(String name, char letter) {
        try {
            switch (name) {
                case "declare":
                    return model.declare(letter);
                case "program":
                    return model.program(letter);
                case "check":
                    return model.check();
                case "run":
                    return model.run(letter);
                case "lemma":
                    model.lemma(letter);
                    return 0;
                case "retract":
                    return model.retract();
                default:
                    return model.wipe();
            }
        } catch (IllegalArgumentException e) {
            return Talk.ARGUMENT;
        } catch (IllegalStateException e) {
            return Talk.STATE;
        }
    }

    // ---- texts

    private char anyLetter() {
        return random.nextInt(40) == 0 ? (char) (random.nextInt(128)) : (char) ('A' + random.nextInt(26));
    }

    private char letterOf(int kind) {
        for (int i = 0; i < 60; i++) {
            char letter = (char) ('A' + random.nextInt(26));
            if (model.kind(letter) == kind) {
                return letter;
            }
        }
        return anyLetter();
    }

    private String randomText() {
        StringBuilder text = new StringBuilder();
        for (int n = random.nextInt(12); n > 0; n--) {
            text.append(ANY.charAt(random.nextInt(ANY.length())));
        }
        return text.toString();
    }

    private String spoiled(String text) {
        if (text.isEmpty() || random.nextInt(12) != 0) {
            return text;
        }
        StringBuilder spoiled = new StringBuilder(text);
        int place = random.nextInt(text.length());
        char c = ANY.charAt(random.nextInt(ANY.length()));
        switch (random.nextInt(4)) {
            case 0 -> spoiled.setCharAt(place, c);
            case 1 -> spoiled.insert(place, c);
            case 2 -> spoiled.deleteCharAt(place);
            default -> spoiled.setLength(place);
        }
        return spoiled.toString();
    }

    /** What a term's type begins with: a letter, # or * ; as far as the model knows it. */
    private char headOf(char letter) {
        return model.headOf(letter);
    }

    record Known(char name, char head) { }

    /** A term whose type begins with a head (or with any), as likely as not of the right type. */
    private String term(Character head, int depth, char holes, List<Known> known) {
        if (head != null && holes == 'o' && depth > 1 && random.nextInt(100) < 45) {
            return "_";
        }
        if (random.nextInt(60) == 0) {
            return String.valueOf("ab1#_Q".charAt(random.nextInt(holes == 'o' ? 6 : 4)));
        }
        List<Known> fitting = new ArrayList<>();
        for (Known one : known) {
            if (head == null || one.head == head) {
                fitting.add(one);
            }
        }
        if (!fitting.isEmpty() && random.nextInt(100) < 70) {
            return String.valueOf(fitting.get(random.nextInt(fitting.size())).name);
        }
        if (head != null && head == '#' && random.nextInt(100) < 80) {
            return String.valueOf(random.nextInt(10));
        }
        return constantTerm(head, depth, holes, known);
    }

    private String constantTerm(Character head, int depth, char holes, List<Known> known) {
        List<Character> letters = new ArrayList<>();
        for (char c = 'A'; c <= 'Z'; c++) {
            boolean fits = model.kind(c) == 1 && (head == null ? headOf(c) != '*' || random.nextInt(5) == 0 : headOf(c) == head);
            if (fits && (depth < 6 || model.parameters(c) == 0)) {
                letters.add(c);
            }
        }
        if (letters.isEmpty()) {
            return head != null && head == '*' ? "#" : holes == 'o' && depth > 1 ? "_" : String.valueOf(random.nextInt(10));
        }
        char letter = letters.get(random.nextInt(letters.size()));
        StringBuilder text = new StringBuilder().append(letter);
        String heads = model.headsOfParameters(letter);
        for (int i = 0; i < heads.length(); i++) {
            text.append(i == 0 ? "(" : "").append(term(heads.charAt(i), depth + 1, holes, known));
        }
        return text.append(heads.isEmpty() ? "" : ")").toString();
    }

    private String typeTerm(List<Known> known) {
        return random.nextInt(4) == 0 ? "#" : constantTerm('*', 1, 'c', known);
    }

    private String declaration() {
        List<Known> known = new ArrayList<>();
        StringBuilder text = new StringBuilder();
        int parts = random.nextInt(random.nextInt(10) == 0 ? 8 : 5);
        for (int i = 0; i < parts; i++) {
            text.append(i == 0 ? "" : ",");
            char program = letterOf(2);
            if (random.nextInt(4) == 0 && model.kind(program) == 2) {
                text.append('?').append(program).append('(');
                for (int k = model.parameters(program); k > 0; k--) {
                    text.append(term(null, 3, 'c', known));
                }
                text.append(")=").append(term(null, 3, 'c', known));
                continue;
            }
            String type = typeTerm(known);
            if (random.nextInt(3) > 0) {
                char name = (char) ('a' + random.nextInt(5));
                text.append(name).append(':');
                text.append(type);
                known.removeIf(one -> one.name == name);
                known.add(new Known(name, type.charAt(0)));
            } else {
                text.append(type);
            }
        }
        return text.append('>').append(random.nextInt(4) == 0 ? "*" : typeTerm(known)).toString();
    }

    private String program(char self) {
        StringBuilder text = new StringBuilder();
        List<Character> names = new ArrayList<>();
        for (int i = 1 + random.nextInt(random.nextInt(8) == 0 ? 5 : 3); i > 0; i--) {
            names.add((char) ('a' + random.nextInt(4)));
            text.append(names.get(names.size() - 1));
        }
        return text.append('=').append(code(1, names, self, names.size())).toString();
    }

    private String code(int depth, List<Character> names, char self, int parameters) {
        int dice = random.nextInt(100);
        if (depth > 4 || dice < 30) {
            int leaf = random.nextInt(100);
            return leaf < 60 ? String.valueOf(names.get(random.nextInt(names.size())))
                    : leaf < 85 ? String.valueOf(random.nextInt(10)) : leaf < 87 ? "~" : String.valueOf(letterOf(1));
        }
        if (dice < 60) {
            boolean own = random.nextInt(5) == 0;
            char letter = own ? self : letterOf(1 + random.nextInt(2));
            int count = own ? parameters : Math.max(0, model.parameters(letter));
            StringBuilder text = new StringBuilder().append(letter);
            for (int i = 0; i < count; i++) {
                text.append(i == 0 ? "(" : "").append(code(depth + 1, names, self, parameters));
            }
            return text.append(count == 0 ? "" : ")").toString();
        }
        if (dice < 70) {
            return (random.nextInt(2) == 0 ? "+" : "-") + code(depth + 2, names, self, parameters)
                    + code(depth + 2, names, self, parameters);
        }
        if (dice < 80) {
            return "[" + code(depth + 2, names, self, parameters) + (random.nextInt(2) == 0 ? "=" : "<")
                    + code(depth + 2, names, self, parameters) + "?" + code(depth + 1, names, self, parameters) + ":"
                    + code(depth + 1, names, self, parameters) + "]";
        }
        return cases(depth, names, self, parameters);
    }

    private String cases(int depth, List<Character> names, char self, int parameters) {
        StringBuilder text = new StringBuilder("{").append(code(depth + 3, names, self, parameters));
        for (int i = 1 + random.nextInt(random.nextInt(9) == 0 ? 7 : 3); i > 0; i--) {
            List<Character> more = new ArrayList<>(names);
            text.append('|');
            int dice = random.nextInt(10);
            if (dice < 2) {
                text.append(random.nextInt(10));
            } else if (dice < 4) {
                text.append('_');
            } else {
                char letter = letterOf(1);
                text.append(letter);
                int count = Math.max(0, model.parameters(letter));
                for (int k = 0; k < count; k++) {
                    char name = (char) ('a' + random.nextInt(8));
                    more.add(name);
                    text.append(k == 0 ? "(" : "").append(name);
                }
                text.append(count == 0 ? "" : ")");
            }
            text.append('>').append(code(depth + 1, more, self, parameters));
        }
        return text.append('}').toString();
    }
}
