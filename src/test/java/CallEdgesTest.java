/** The edges of each call: empty and full texts, letters, what there is not, and what stays as it was. */
public final class CallEdgesTest {
    private static final int NONE = ConditionedProofs.NONE;
    private static final int LONG = ConditionedProofs.LONG;
    private static final int FAILED = ConditionedProofs.FAILED;
    private static final char[] NO_LETTERS = {0, ' ', '@', '[', '`', 'a', 'z', '{', 127, 'A' + 128, 'A' + 256, 65535};

    public static void main(String[] args) {
        aNewObject();
        charactersOfTheText();
        eightyCharacters();
        aFullTextIsRead();
        wiping();
        readingAnEmptyText();
        theTextIsEmptyThen();
        lettersOfDeclarations();
        lettersOfPrograms();
        lettersOfLemmas();
        lettersOfRuns();
        numbersOfParameters();
        aCallThatThrowsChangesNothing();
        aWrongDeclarationChangesNothing();
        whenThereIsAResult();
        thePageOfACheck();
        lemmasOfHoles();
        lemmasOfEachSort();
        theDeepestLemma();
        theResultStays();
        retracting();
        retractingTheResult();
        runsOfOtherCounts();
        thePageOfARun();
        stepsOfTheLatest();
        kindsAndParameters();
        placesOfThePage();
        allCallsOfAnObject();
        Report.finish();
    }

    private static void due(String what, long got, long want) {
        Report.due(what, got, want);
    }

    private static int fault(int place) {
        return -1 - place;
    }

    private static int wrong(int place) {
        return ConditionedProofs.WRONG - place;
    }

    private static int typed(Talk t, int c) {
        return t.it.type((char) c) ? 1 : 0;
    }

    private static void aNewObject() {
        for (char c = 0; c < 300; c++) {
            Talk t = new Talk();
            due("kind of " + (int) c, t.it.kind(c), 0);
            due("parameters of " + (int) c, t.it.parameters(c), NONE);
            due("no program " + (int) c, t.run(c, ""), Talk.ARGUMENT);
        }
        due("the text", new Talk().it.wipe(), 0);
        due("the page", new Talk().it.length(), 0);
        due("its character", new Talk().it.charAt(0), ' ');
        due("the result", new Talk().lemma('A'), Talk.STATE);
        due("the steps", new Talk().it.steps(), 0);
        due("the latest", new Talk().retract(), Talk.STATE);
        due("nothing to check", new Talk().it.check(), fault(0));
        Talk t = new Talk();
        Talk u = new Talk().constant('T', ">*");
        u.check("T");
        due("objects are apart", t.it.kind('T') + t.it.length(), 0);
    }

    private static void charactersOfTheText() {
        Talk t = new Talk();
        int many = 0;
        for (int c = 0; c <= 65535; c++) {
            boolean fits = c >= 32 && c <= 126;
            if (typed(t, c) != (fits ? 1 : 0)) {
                due("type " + c, 0, 1);
            }
            many += fits ? 1 : 0;
            if (fits) {
                due("wipe after " + c, t.it.wipe(), 1);
            }
        }
        due("characters that were taken", many, 95);
        due("those refused are not in the text", t.it.wipe(), 0);
        for (int c : new int[] {0, 31, 127, 128, '#' + 256, 65535}) {
            Talk u = new Talk();
            typed(u, c);
            due("nothing of " + c, u.check("1"), 1);
        }
    }

    private static void eightyCharacters() {
        Talk t = new Talk();
        for (int i = 1; i <= 80; i++) {
            due("character " + i, typed(t, 'x'), 1);
        }
        due("character 81", typed(t, 'x'), 0);
        due("character 81 again", typed(t, ' '), 0);
        due("character 81 that is none", typed(t, 31), 0);
        due("all of them", t.it.wipe(), 80);
        due("room again", typed(t, 'x'), 1);
        due("one of them", t.it.wipe(), 1);
        t.text("x".repeat(79));
        due("the 80th may be any", typed(t, '~'), 1);
        due("a full one", t.it.check(), fault(1));
        due("it is empty then", t.it.wipe(), 0);
    }

    private static void aFullTextIsRead() {
        Talk t = Worlds.numbers().text(Worlds.number(80));
        due("one more is refused", typed(t, '1'), 0);
        due("and not read", t.it.check(), 1);
        t.text(Worlds.number(80));
        due("one more is refused", typed(t, ')'), 0);
        due("and not read", t.it.run('P'), 80);
        t.text("abcd=" + "U(".repeat(11) + "1" + ")".repeat(11));
        due("a shorter one behind", t.it.program('X'), 4);
    }

    private static void wiping() {
        Talk t = new Talk();
        due("empty", t.it.wipe(), 0);
        due("one", t.text("x").it.wipe(), 1);
        due("then none", t.it.wipe(), 0);
        due("full", t.text("x".repeat(80)).it.wipe(), 80);
        due("then none", t.it.wipe(), 0);
        t.check("1");
        t.text("12").it.wipe();
        due("the page stays", t.it.length(), 1);
        due("the result stays", t.lemma('L'), 0);
    }

    private static void readingAnEmptyText() {
        Talk t = Worlds.small();
        due("declare", t.declare('X', ""), fault(0));
        due("program", t.program('X', ""), fault(0));
        due("check", t.check(""), fault(0));
        due("run", t.run('P', ""), fault(0));
        due("nothing is declared", t.it.kind('X'), 0);
    }

    /** Whatever is answered, the text is empty behind each call that reads it and does not throw. */
    private static void theTextIsEmptyThen() {
        String[][] rows = {{"d", ">*"}, {"d", ">"}, {"d", ">Q"}, {"p", "a=a"}, {"p", "a"}, {"p", "a=Q"}, {"c", "E"},
            {"c", "E("}, {"c", "Q"}, {"r", "E"}, {"r", "E("}, {"r", "Q"}, {"r", "EE"}, {"f", "1"}};
        for (String[] row : rows) {
            Talk t = Worlds.small().code('N', "a=~");
            switch (row[0]) {
                case "d" -> t.declare('X', row[1]);
                case "p" -> t.program('X', row[1]);
                case "c" -> t.check(row[1]);
                case "r" -> t.run('P', row[1]);
                default -> due("it fails", t.run('N', row[1]), FAILED);
            }
            due("the text after " + row[0] + " " + row[1], t.it.wipe(), 0);
        }
        Talk t = tooLong();
        due("long", t.check("I(_)"), LONG);
        due("the text after LONG", t.it.wipe(), 0);
        due("long", t.run('B', "E"), LONG);
        due("the text after LONG", t.it.wipe(), 0);
    }

    /** The constant I has a type that is too long, and the program B gives a value that is. */
    private static Talk tooLong() {
        return Worlds.growing().code('B', Worlds.nodes(200)).constant('I', "a:T,?B(E)=a>F(a)");
    }

    private static void lettersOfDeclarations() {
        for (char c : NO_LETTERS) {
            due("declare " + (int) c, new Talk().declare(c, ">*"), Talk.ARGUMENT);
        }
        Talk t = new Talk().code('P', "a=a");
        due("A", t.declare('A', ">*"), 0);
        due("Z", t.declare('Z', ">*"), 0);
        due("A again", t.declare('A', ">*"), Talk.STATE);
        due("a program", t.declare('P', ""), Talk.STATE);
        due("an empty text is no matter", new Talk().constant('A', ">*").declare('A', ""), Talk.STATE);
        due("nor is a faulty one", new Talk().constant('A', ">*").declare('A', ">>"), Talk.STATE);
        due("nor for no letter", new Talk().declare('a', ">>"), Talk.ARGUMENT);
        Talk u = new Talk();
        u.check("1");
        u.lemma('L');
        due("a lemma", u.declare('L', ">*"), Talk.STATE);
    }

    private static void lettersOfPrograms() {
        for (char c : NO_LETTERS) {
            due("program " + (int) c, new Talk().program(c, "a=a"), Talk.ARGUMENT);
        }
        Talk t = new Talk().constant('C', ">*");
        due("A", t.program('A', "a=a"), 1);
        due("Z", t.program('Z', "a=a"), 1);
        due("A again", t.program('A', "a=a"), Talk.STATE);
        due("a constant", t.program('C', ""), Talk.STATE);
        due("a faulty text is no matter", new Talk().code('A', "a=a").program('A', "a"), Talk.STATE);
        due("nor for no letter", new Talk().program('a', ""), Talk.ARGUMENT);
        Talk u = new Talk();
        u.check("1");
        u.lemma('L');
        due("a lemma", u.program('L', "a=a"), Talk.STATE);
    }

    private static void lettersOfLemmas() {
        for (char c : NO_LETTERS) {
            Talk t = new Talk();
            due("lemma without a result " + (int) c, t.lemma(c), Talk.ARGUMENT);
            t.check("1");
            due("lemma " + (int) c, t.lemma(c), Talk.ARGUMENT);
        }
        Talk t = new Talk().constant('C', ">*").code('P', "a=a");
        due("no result and taken", t.lemma('C'), Talk.STATE);
        t.check("1");
        due("A", t.lemma('A'), 0);
        due("Z", t.lemma('Z'), 0);
        due("A again", t.lemma('A'), Talk.STATE);
        due("a constant", t.lemma('C'), Talk.STATE);
        due("a program", t.lemma('P'), Talk.STATE);
        due("another one", t.lemma('B'), 0);
    }

    private static void lettersOfRuns() {
        Talk t = new Talk().constant('C', ">#").code('A', "a=a").code('Z', "a=a");
        for (char c : NO_LETTERS) {
            due("run " + (int) c, t.run(c, ""), Talk.ARGUMENT);
        }
        due("A", t.run('A', "1"), 1);
        due("Z", t.run('Z', "1"), 1);
        due("a constant", t.run('C', "1"), Talk.ARGUMENT);
        due("nothing", t.run('B', ""), Talk.ARGUMENT);
        due("the text is there", t.it.wipe(), 1);
        due("a faulty text is no matter", t.run('B', "("), Talk.ARGUMENT);
    }

    private static void numbersOfParameters() {
        for (int parts = 0; parts <= 6; parts++) {
            Talk t = new Talk().code('P', "a=a");
            String plain = "#,".repeat(parts);
            plain = (parts == 0 ? "" : plain.substring(0, plain.length() - 1)) + ">*";
            due("declare " + plain, t.declare('X', plain), parts);
            due("parameters of " + plain, t.it.parameters('X'), parts);
            if (parts < 6) {
                String more = (parts == 0 ? "?P(1)=1" : "?P(1)=1,") + plain;
                due("declare " + more, t.declare('Y', more), parts);
                due("parameters of " + more, t.it.parameters('Y'), parts);
            }
        }
        for (int names = 1; names <= 4; names++) {
            Talk t = new Talk();
            due("program with " + names, t.program('X', "abcd".substring(0, names) + "=a"), names);
            due("parameters of it", t.it.parameters('X'), names);
        }
    }

    /** A text that wants its end, a page, a result, steps, a constant T and a program P. */
    private static Talk midway() {
        Talk t = Worlds.small().constant('G', "a:T,?P(a)=a>F(a)");
        t.check("G(D(EE))");
        return t.text("D(E");
    }

    private static String seen(Talk t) {
        StringBuilder all = new StringBuilder(t.page()).append(' ').append(t.it.steps());
        for (char c = 'A'; c <= 'Z'; c++) {
            all.append(' ').append(t.it.kind(c)).append(t.it.parameters(c));
        }
        return all.toString();
    }

    private static int throwing(Talk t, int number) {
        switch (number) {
            case 0:
                return t.declare('x', "");
            case 1:
                return t.declare('T', "");
            case 2:
                return t.program('x', "");
            case 3:
                return t.program('T', "");
            case 4:
                return t.lemma('x');
            case 5:
                return t.lemma('P');
            case 6:
                return t.run('x', "");
            case 7:
                return t.run('T', "");
            default:
                return t.run('X', "");
        }
    }

    private static void aCallThatThrowsChangesNothing() {
        for (int number = 0; number <= 8; number++) {
            Talk t = midway();
            String before = seen(t);
            due("throwing " + number, throwing(t, number) > 1000 ? 1 : 0, 1);
            Report.due("all that is seen after " + number, seen(t), before);
            due("the result after " + number, t.lemma('Z'), 0);
            t.text("E)");
            due("the text after " + number, t.it.check(), 1);
            due("the result was the same after " + number, t.check("Z"), 8);
            due("the latest is the same after " + number, t.retract(), 'Z');
            due("and the one before after " + number, t.retract(), 'G');
        }
        Talk t = new Talk();
        due("a result", t.check("1"), 1);
        t.text("#");
        due("nothing to retract", t.retract(), Talk.STATE);
        due("the result is there", t.lemma('Z'), 0);
        due("the text is there", t.it.check(), 1);
        Talk u = Worlds.small().constant('G', "a:T>F(a)");
        due("a result with a hole", u.check("G(_)"), 4);
        u.text("D(E");
        String before = seen(u);
        due("no lemma", u.lemma('Z'), Talk.STATE);
        Report.due("all that is seen", seen(u), before);
        due("the text is there", u.text("E)").it.check(), 1);
        due("no result", Worlds.small().lemma('Z'), Talk.STATE);
    }

    private static void aWrongDeclarationChangesNothing() {
        String[] declarations = {">", ">Q", "x", "E>*", "?Q(1)=1>*"};
        String[] programs = {"a", "a=Q", "=", "a=b", "a={a|Q>1}"};
        for (int i = 0; i < declarations.length; i++) {
            Talk t = midway();
            t.it.wipe();
            String before = seen(t);
            due("declare " + declarations[i], t.declare('X', declarations[i]) < 0 ? 1 : 0, 1);
            Report.due("all that is seen after " + declarations[i], seen(t), before);
            due("program " + programs[i], t.program('X', programs[i]) < 0 ? 1 : 0, 1);
            Report.due("all that is seen after " + programs[i], seen(t), before);
            due("the result is there", t.lemma('X'), 0);
            due("the latest", t.retract(), 'X');
            due("the one before", t.retract(), 'G');
        }
    }

    private static void whenThereIsAResult() {
        Talk t = tooLong().code('N', "a=~");
        String[] texts = {"E(", "", "Q", "x", "_", "D(E1)", "I(_)"};
        int[] answers = {fault(2), fault(0), wrong(0), wrong(0), wrong(0), wrong(3), LONG};
        for (int i = 0; i < texts.length; i++) {
            due("a result", t.check("E"), 1);
            due("check " + texts[i], t.check(texts[i]), answers[i]);
            due("no result after " + texts[i], t.lemma('Z'), Talk.STATE);
        }
        due("a star is one", t.check("T"), 1);
        due("a star", t.lemma('Z'), 0);
    }

    private static void thePageOfACheck() {
        Talk t = tooLong();
        String[] texts = {"E(", "", "Q", "x", "_", "D(E1)", "I(_)"};
        for (String text : texts) {
            t.check("F(E)");
            t.check("E");
            due("check " + text, t.check(text) < 0 ? 1 : 0, 1);
            Report.due("the page after " + text, t.page(), "T");
        }
        due("a page that is shorter", t.check("1"), 1);
        Report.due("a page that is shorter", t.page(), "#");
        for (int more = 0; more <= 1; more++) {
            Talk u = Worlds.growing().code('B', more == 0 ? "a=Q(Q(U(Q(U(Q(a))))))" : "a=U(Q(U(Q(U(Q(U(U(a))))))))")
                    .constant('I', "a:T,?B(E)=a>F(a)");
            due("the value has " + (97 + more), u.run('B', "E"), 97 + more);
            due("the type has " + (100 + more), u.check("I(_)"), more == 0 ? 100 : LONG);
            due("the page has", u.it.length(), more == 0 ? 100 : 98);
            due("there is a result", u.lemma('L'), more == 0 ? 0 : Talk.STATE);
        }
    }

    private static void lemmasOfHoles() {
        Talk t = Worlds.small().constant('R', "T,T>*").constant('I', "a:T,b:T>R(ab)").constant('M', "a:T,F(a)>F(a)")
                .constant('N', "a:T>F(a)");
        String[] texts = {"I(__)", "I(_E)", "I(E_)", "I(ED(E_))", "M(_N(_))", "N(_)"};
        for (String text : texts) {
            due("check " + text, t.check(text) > 0 ? 1 : 0, 1);
            due("a hole in " + text, t.lemma('Z'), Talk.STATE);
        }
        due("all holes have values", t.check("M(_N(E))"), 4);
        due("no hole without one", t.lemma('Z'), 0);
        due("used", t.check("M(_Z)"), 4);
        Report.due("used", t.page(), "F(E)");
        Talk u = Worlds.small().constant('I', "T>T");
        due("a hole that is not in the type", u.check("I(_)"), 1);
        due("is no matter", u.lemma('Z'), 0);
    }

    private static void lemmasOfEachSort() {
        Talk t = Worlds.small().constant('I', "a:#>S(a)");
        String[] texts = {"#", "1", "E", "T", "I(7)", "S(1)"};
        String[] types = {"*", "#", "T", "*", "S(7)", "*"};
        for (int i = 0; i < texts.length; i++) {
            due("check " + texts[i], t.check(texts[i]), types[i].length());
            due("lemma of it", t.lemma('Z'), 0);
            due("kind of it", t.it.kind('Z'), 1);
            due("parameters of it", t.it.parameters('Z'), 0);
            due("its type", t.check("Z"), types[i].length());
            Report.due("its type", t.page(), types[i]);
            due("no arguments", t.check("Z(1)"), wrong(0));
            due("as a result", t.declare('Y', ">Z"), types[i].equals("*") ? 0 : wrong(1));
            due("back", t.retract(), types[i].equals("*") ? 'Y' : 'Z');
            if (types[i].equals("*")) {
                t.retract();
            }
        }
    }

    /** A page of 100 characters has at most 34 levels; the lemma must have them all. */
    private static void theDeepestLemma() {
        Talk t = Worlds.growing().code('V', "a=U(U(U(U(U(U(U(U(a))))))))").code('B', "a=V(V(V(V(a))))")
                .code('C', "a=U(V(V(V(V(a)))))").constant('I', "a:T,?B(E)=a>F(a)").constant('J', "a:T,?C(E)=a>F(a)");
        due("35 levels", t.check("J(_)"), LONG);
        due("no lemma of them", t.lemma('L'), Talk.STATE);
        due("34 levels", t.check("I(_)"), 100);
        String page = t.page();
        due("a lemma of them", t.lemma('L'), 0);
        t.check("1");
        due("its type", t.check("L"), 100);
        Report.due("its type", t.page(), page);
    }

    private static void theResultStays() {
        Talk t = Worlds.small().code('N', "a=~");
        due("a result", t.check("E"), 1);
        due("a lemma", t.lemma('A'), 0);
        due("a second one", t.lemma('B'), 0);
        due("both", t.check("D(AB)"), 1);
        due("a run", t.run('P', "D(EE)"), 5);
        due("one that fails", t.run('N', "1"), FAILED);
        due("a faulty one", t.run('N', "("), fault(0));
        due("a wrong one", t.run('N', "Q"), wrong(0));
        due("a declaration", t.declare('C', ">#"), 0);
        due("a program", t.program('G', "a=a"), 1);
        due("the result is that of the check", t.lemma('L'), 0);
        due("its type", t.check("L"), 1);
        Report.due("its type", t.page(), "T");
    }

    private static void retracting() {
        Talk t = new Talk();
        due("nothing", t.retract(), Talk.STATE);
        t.constant('B', ">*").code('A', "a=a");
        t.check("B");
        t.lemma('C');
        due("a lemma", t.retract(), 'C');
        due("it is nothing", t.it.kind('C'), 0);
        due("it has no parameters", t.it.parameters('C'), NONE);
        due("a program", t.retract(), 'A');
        due("it is nothing", t.it.kind('A'), 0);
        due("a constant", t.retract(), 'B');
        due("it is nothing", t.it.kind('B'), 0);
        due("nothing again", t.retract(), Talk.STATE);
        for (char c = 'Z'; c >= 'A'; c--) {
            due("declare " + c, t.declare(c, ">*"), 0);
        }
        for (char c = 'A'; c <= 'Z'; c++) {
            due("retract " + c, t.retract(), c);
        }
        due("nothing once more", t.retract(), Talk.STATE);
        due("a faulty one is not declared", t.constant('A', ">*").declare('B', ">"), fault(1));
        due("nor a wrong one", t.declare('C', ">Q"), wrong(1));
        due("nor a throwing one", t.declare('A', ""), Talk.STATE);
        due("the latest", t.retract(), 'A');
    }

    private static void retractingTheResult() {
        Talk t = new Talk().constant('T', ">*").constant('E', ">T").code('P', "a=+11").constant('G', "?P(1)=2>T");
        due("a check", t.check("G"), 1);
        due("its steps", t.it.steps(), 3);
        t.text(">T");
        due("retract", t.retract(), 'G');
        due("no result", t.lemma('L'), Talk.STATE);
        due("the page stays", t.it.length(), 1);
        due("its character", t.it.charAt(0), 'T');
        due("the steps stay", t.it.steps(), 3);
        due("the text stays", t.it.declare('L'), 0);
        due("a result again", t.check("E"), 1);
        due("a lemma", t.lemma('M'), 0);
        due("without it", t.retract(), 'M');
        due("no result", t.lemma('M'), Talk.STATE);
    }

    private static void runsOfOtherCounts() {
        String[] names = {"a", "ab", "abc", "abcd"};
        for (int parameters = 1; parameters <= 4; parameters++) {
            Talk t = new Talk().code('P', names[parameters - 1] + "=a");
            for (int terms = 1; terms <= 6; terms++) {
                int answer = t.run('P', "123456".substring(0, terms));
                due(terms + " terms for " + parameters, answer, terms == parameters ? 1 : wrong(0));
                due("steps", t.it.steps(), terms == parameters ? 1 : 0);
            }
            due("seven terms", t.run('P', "1234567"), fault(6));
            due("before they are looked at", t.run('P', "xxxxxx"), wrong(0));
        }
    }

    private static void thePageOfARun() {
        Talk t = tooLong().code('N', "a=~");
        String[] texts = {"", "(", "_", "Q", "x", "EE"};
        due("a run", t.run('Q', "E"), 5);
        for (String text : texts) {
            due("run " + text, t.run('Q', text) < 0 ? 1 : 0, 1);
            Report.due("the page after " + text, t.page(), "D(EE)");
        }
        due("one that fails", t.run('N', "E"), FAILED);
        Report.due("the page after it", t.page(), "D(EE)");
        due("a long one", t.run('B', "E"), LONG);
        Report.due("the page after it", t.page(), "D(EE)");
        due("a throwing one", t.run('E', ""), Talk.ARGUMENT);
        Report.due("the page after it", t.page(), "D(EE)");
        due("a shorter one", t.code('O', "a=a").run('O', "4"), 1);
        Report.due("the page after it", t.page(), "4");
    }

    private static void stepsOfTheLatest() {
        Talk t = tooLong().code('N', "a=+1~").code('C', "a=+aa").constant('G', "a:#,?C(a)=2>#").code('M', "ab=a");
        due("none", t.it.steps(), 0);
        due("a declaration makes none", t.declare('X', ">T"), 0);
        due("none", t.it.steps(), 0);
        due("a run", t.run('C', "1"), 1);
        due("its steps", t.it.steps(), 3);
        due("one that fails", t.run('N', "1"), FAILED);
        due("its steps", t.it.steps(), 3);
        due("a check", t.check("G(1)"), 1);
        due("its steps", t.it.steps(), 3);
        due("a check of two", t.check("G(G(1))"), wrong(0));
        due("steps before the wrong", t.it.steps(), 3 + 3);
        due("a check without", t.check("E"), 1);
        due("none", t.it.steps(), 0);
        due("a wrong behind a condition", t.check("D(G(1)E)"), wrong(2));
        due("its steps", t.it.steps(), 3);
        due("a fault", t.check("G(1"), fault(3));
        due("none", t.it.steps(), 0);
        due("a run of what has conditions", t.run('M', "G(1)G(2)"), wrong(4));
        due("its steps", t.it.steps(), 6);
        due("a run with them", t.run('M', "G(1)1"), 4);
        due("its steps", t.it.steps(), 3 + 1);
        due("a throwing run", t.run('G', ""), Talk.ARGUMENT);
        due("the same", t.it.steps(), 4);
        due("another declaration", t.declare('Y', ">T"), 0);
        due("the same", t.it.steps(), 4);
        due("a retraction", t.retract(), 'Y');
        due("the same", t.it.steps(), 4);
        due("too long", t.check("I(_)"), LONG);
        due("its steps", t.it.steps(), 28);
        due("other counts", t.run('M', "1"), wrong(0));
        due("none", t.it.steps(), 0);
        due("too long", t.run('B', "E"), LONG);
        due("its steps", t.it.steps(), 28);
        due("a faulty run", t.run('B', "_"), fault(0));
        due("none", t.it.steps(), 0);
    }

    private static void kindsAndParameters() {
        Talk t = new Talk().constant('A', ">*").code('Z', "abcd=a");
        t.check("1");
        t.lemma('M');
        due("A", t.it.kind('A'), 1);
        due("B", t.it.kind('B'), 0);
        due("M", t.it.kind('M'), 1);
        due("Y", t.it.kind('Y'), 0);
        due("Z", t.it.kind('Z'), 2);
        due("A", t.it.parameters('A'), 0);
        due("B", t.it.parameters('B'), NONE);
        due("M", t.it.parameters('M'), 0);
        due("Y", t.it.parameters('Y'), NONE);
        due("Z", t.it.parameters('Z'), 4);
        for (char c = 'A'; c <= 'Z'; c++) {
            t.declare(c, ">*");
            t.it.wipe();
        }
        for (char c : NO_LETTERS) {
            due("kind of " + (int) c, t.it.kind(c), 0);
            due("parameters of " + (int) c, t.it.parameters(c), NONE);
        }
    }

    private static void placesOfThePage() {
        Talk t = Worlds.small();
        due("of an empty page", t.it.charAt(0), ' ');
        t.run('P', "D(EE)");
        due("length", t.it.length(), 5);
        String page = "D(EE)";
        for (int p = 0; p < 5; p++) {
            due("character " + p, t.it.charAt(p), page.charAt(p));
        }
        for (int p : new int[] {-1, 5, 6, 99, 100, 101, Integer.MAX_VALUE, Integer.MIN_VALUE}) {
            due("character " + p, t.it.charAt(p), ' ');
        }
        t.run('P', "4");
        due("length", t.it.length(), 1);
        due("no more of the older one", t.it.charAt(1), ' ');
        Talk u = Worlds.numbers().code('A', "a=U(U(U(U(U(U(U(a)))))))");
        due("a full page", u.run('A', Worlds.number(79)), 100);
        due("length", u.it.length(), 100);
        due("its first", u.it.charAt(0), 'U');
        due("its last", u.it.charAt(99), ')');
        due("behind its last", u.it.charAt(100), ' ');
    }

    /** An object is used for at most 512 calls: the last one is as good as the first. */
    private static void allCallsOfAnObject() {
        Talk t = new Talk();
        int calls = 0;
        for (; calls + 2 <= 510; calls += 2) {
            due("check of 7", t.check("7"), 1);
        }
        due("type", t.it.type('#') ? 1 : 0, 1);
        due("the last check", t.it.check(), 1);
        due("calls", calls + 2, 512);
        Talk u = new Talk();
        for (calls = 0; calls + 4 <= 512; calls += 4) {
            due("declare", u.declare('T', ">*"), 0);
            due("retract", u.retract(), 'T');
        }
    }
}
