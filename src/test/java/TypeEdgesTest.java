/** The edges of what is made the same, of types, and of declarations and programs that are right or wrong. */
public final class TypeEdgesTest {
    private static final int LONG = ConditionedProofs.LONG;

    public static void main(String[] args) {
        numbersAndHashes();
        holesGetValues();
        holesLieInConstants();
        holesTakeTwoHundredNodes();
        nodesCountEachTimeTheyCome();
        constantsHaveNoLimitOfNodes();
        argumentsAreMadeTheSameFromTheLeft();
        aThousandPairs();
        aThousandPairsEachTime();
        typesOfTheSimplest();
        noVariablesInChecksAndRuns();
        asManyArgumentsAsParameters();
        holesAreNew();
        neverWithStar();
        namesHaveValues();
        conditionsInTheirOrder();
        placesOfWrongs();
        theFirstWrongCounts();
        typesInDeclarations();
        conditionsInDeclarations();
        noConditionsInDeclarations();
        namesAreOnlyThemselves();
        variablesOfPrograms();
        lettersOfPrograms();
        lettersOfPatterns();
        Report.finish();
    }

    private static void due(String what, long got, long want) {
        Report.due(what, got, want);
    }

    private static int wrong(int place) {
        return ConditionedProofs.WRONG - place;
    }

    /** Makes two terms the same, all names being holes; the page then tells what the holes have. */
    private static String made(Talk t, String names, String left, String right, String result) {
        t.constant('X', names + ",?P(" + left + ")=" + right + ">" + result);
        int holes = t.it.parameters('X');
        int answer = t.check("X(" + "_".repeat(holes) + ")");
        t.retract();
        return answer == wrong(0) ? "wrong" : answer == LONG ? "long" : t.page();
    }

    private static void same(String left, String right, String page) {
        Talk t = Worlds.small().constant('R', "T,T>*");
        Report.due(left + " and " + right, made(t, "a:T,b:T", left, right, "R(ab)"), page);
        Talk u = Worlds.small().constant('R', "T,T>*");
        Report.due(right + " and " + left, made(u, "a:T,b:T", right, left, "R(ab)"), page);
    }

    private static void numbersAndHashes() {
        same("0", "0", "R(__)");
        same("7", "7", "R(__)");
        same("7", "8", "wrong");
        same("#", "#", "R(__)");
        same("#", "0", "wrong");
        same("#", "T", "wrong");
        same("0", "T", "wrong");
        same("E", "E", "R(__)");
        same("E", "T", "wrong");
        same("D(EE)", "D(EE)", "R(__)");
        same("D(EE)", "D(ED(EE))", "wrong");
        same("D(D(EE)E)", "D(EE)", "wrong");
        same("D(EE)", "E", "wrong");
        same("F(E)", "F(D(EE))", "wrong");
    }

    private static void holesGetValues() {
        same("a", "a", "R(__)");
        same("a", "7", "R(7_)");
        same("a", "#", "R(#_)");
        same("a", "E", "R(E_)");
        same("a", "D(bE)", "R(D(_E)_)");
        same("D(aa)", "D(EE)", "R(E_)");
        same("D(aa)", "D(ED(EE))", "wrong");
        same("D(ab)", "D(bE)", "R(EE)");
        same("D(ab)", "D(bb)", "R(__)");
        same("D(aD(ba))", "D(bD(aE))", "R(EE)");
        same("D(D(ab)a)", "D(D(ba)E)", "R(EE)");
    }

    private static void holesLieInConstants() {
        same("a", "D(aE)", "wrong");
        same("a", "D(Ea)", "wrong");
        same("a", "D(D(EE)D(ED(ba)))", "wrong");
        same("a", "D(D(EE)D(ED(bE)))", "R(D(D(EE)D(ED(_E)))_)");
        same("D(ab)", "D(bD(aE))", "wrong");
        same("D(ab)", "D(D(bE)D(aE))", "wrong");
        same("D(ab)", "D(D(bE)E)", "R(D(EE)E)");
        same("D(aD(aE))", "D(bD(bE))", "R(__)");
    }

    /** The value is made by a program and is then one node larger, which no program has made. */
    private static void holesTakeTwoHundredNodes() {
        for (int nodes = 198; nodes <= 200; nodes++) {
            String page = nodes < 200 ? "F(_)" : "wrong";
            Talk t = Worlds.growing().code('P', "a=a").code('B', Worlds.nodes(nodes));
            Report.due(nodes + " and one", made(t, "a:T,b:T,c:T,?B(E)=a", "U(a)", "b", "F(c)"), page);
            Report.due("one and " + nodes, made(t, "a:T,b:T,c:T,?B(E)=a", "b", "U(a)", "F(c)"), page);
        }
        Talk t = Worlds.growing().code('P', "a=a").code('B', Worlds.nodes(200)).constant('I', "a:T,?B(E)=a>F(a)")
                .constant('N', "a:T,F(a)>T").constant('O', "a:T,F(a)>F(U(a))");
        due("a type of 200 for a hole", t.check("N(_I(_))"), 1);
        due("a type of 201 for a hole", t.check("N(_O(_I(_)))"), wrong(3));
    }

    private static void nodesCountEachTimeTheyCome() {
        for (int nodes = 98; nodes <= 100; nodes++) {
            Talk t = Worlds.growing().code('P', "a=a").code('B', Worlds.nodes(nodes));
            String page = 1 + 2 * nodes <= 200 ? "F(_)" : "wrong";
            Report.due("twice " + nodes, made(t, "a:T,b:T,c:T,?B(E)=a", "D(aa)", "b", "F(c)"), page);
        }
        Talk t = Worlds.growing().code('P', "a=a").code('B', Worlds.nodes(197));
        Report.due("a hole is one node", made(t, "a:T,b:T,c:T,d:T,?B(E)=a", "D(aU(d))", "b", "F(c)"), "F(_)");
        Report.due("as is any other", made(t, "a:T,b:T,c:T,d:T,?B(E)=a", "D(aU(U(d)))", "b", "F(c)"), "wrong");
    }

    private static void constantsHaveNoLimitOfNodes() {
        Talk t = Worlds.growing().code('P', "a=a").code('B', Worlds.nodes(200));
        Report.due("201 nodes", made(t, "a:T,c:T,?B(E)=a", "U(a)", "U(a)", "F(c)"), "F(_)");
        Report.due("401 nodes", made(t, "a:T,c:T,?B(E)=a", "D(aa)", "D(aa)", "F(c)"), "F(_)");
    }

    /** A hole's value may grow beyond 200 nodes when holes in it get theirs, but not the other way round. */
    private static void argumentsAreMadeTheSameFromTheLeft() {
        Talk t = Worlds.growing().code('P', "a=a").code('B', Worlds.nodes(200));
        String names = "a:T,b:T,c:T,d:T,?B(E)=c";
        Report.due("first the outer one", made(t, names, "D(ab)", "D(U(b)c)", "F(d)"), "F(_)");
        Report.due("first the inner one", made(t, names, "D(ba)", "D(cU(b))", "F(d)"), "wrong");
    }

    /** With a value of 166 nodes these two have 999, 1000 and 1001 nodes. */
    private static void aThousandPairs() {
        String[] terms = {"H(U(a)U(a)aaaa)", "H(U(a)U(a)U(a)aaa)", "H(U(a)U(a)U(a)U(a)aa)"};
        String[] pages = {"F(_)", "F(_)", "wrong"};
        for (int i = 0; i < terms.length; i++) {
            Talk t = Worlds.growing().code('P', "a=a").constant('H', "T,T,T,T,T,T>*").code('B', Worlds.nodes(166));
            Report.due(999 + i + " pairs", made(t, "a:T,c:T,?B(E)=a", terms[i], terms[i], "F(c)"), pages[i]);
        }
        String[] holes = {"H(U(b)U(b)bbbb)", "H(U(b)U(b)U(b)bbb)", "H(U(b)U(b)U(b)U(b)bb)"};
        for (int i = 0; i < terms.length; i++) {
            Talk t = Worlds.growing().constant('H', "T,T,T,T,T,T>*").code('B', Worlds.nodes(199))
                    .constant('Y', "a:T,?B(E)=a>" + terms[i]).constant('Z', "b:T," + holes[i] + ">T");
            due(999 + i + " pairs, one with a hole", t.check("Z(_Y(_))"), i < 2 ? 1 : wrong(3));
        }
    }

    private static void aThousandPairsEachTime() {
        String term = "H(U(a)U(a)U(a)aaa)";
        Talk t = Worlds.growing().constant('H', "T,T,T,T,T,T>*").code('B', Worlds.nodes(166))
                .constant('Y', "a:T,?B(E)=a>" + term).constant('Z', "a:T," + term + "," + term + "," + term + ">T");
        due("835, 1000 and 1000 pairs", t.check("Z(_Y(_)Y(_)Y(_))"), 1);
    }

    private static void typesOfTheSimplest() {
        Talk t = new Talk();
        due("0", t.check("0"), 1);
        Report.due("0", t.page(), "#");
        due("9", t.check("9"), 1);
        due("#", t.check("#"), 1);
        Report.due("#", t.page(), "*");
        due("a hole", t.check("_"), wrong(0));
        due("a", t.check("a"), wrong(0));
        due("z", t.check("z"), wrong(0));
        due("nothing", t.check("A"), wrong(0));
        due("nothing with arguments", t.check("Z(1)"), wrong(0));
        t.code('P', "a=a");
        due("a program", t.check("P"), wrong(0));
        due("a program with arguments", t.check("P(1)"), wrong(0));
        due("a lemma", t.check("1") + t.lemma('L') + t.check("L"), 2);
    }

    /** Names of what was declared, and of what is being looked at, are none of the text's. */
    private static void noVariablesInChecksAndRuns() {
        Talk t = Worlds.small().constant('G', "a:T,b:T,c:T>T").code('C', "ab=b");
        due("a name of the constant", t.check("G(EaE)"), wrong(3));
        due("its last name", t.check("G(EEc)"), wrong(4));
        due("a name before", t.check("a"), wrong(0));
        due("a program's", t.run('C', "Ea"), wrong(1));
        due("a program's, inside", t.run('C', "EG(EbE)"), wrong(4));
        due("a declaration's own", t.declare('X', "x:T,y:T,?C(xy)=G(axy)>*"), wrong(17));
        due("of a wrong one", t.check("G(Ex_)"), wrong(3));
    }

    /** Constants A to G have none to six parameters. */
    private static Talk counted() {
        Talk t = new Talk().constant('A', ">#");
        for (int i = 1; i <= 6; i++) {
            t.constant((char) ('A' + i), "#,".repeat(i - 1) + "#>#");
        }
        return t;
    }

    private static String with(char letter, String argument, int many) {
        return letter + (many == 0 ? "" : "(" + argument.repeat(many) + ")");
    }

    private static void asManyArgumentsAsParameters() {
        Talk t = counted();
        for (int parameters = 0; parameters <= 6; parameters++) {
            char letter = (char) ('A' + parameters);
            due("parameters of " + letter, t.it.parameters(letter), parameters);
            for (int arguments = 0; arguments <= 6; arguments++) {
                int answer = t.check(with(letter, "1", arguments));
                due(arguments + " arguments for " + letter, answer, arguments == parameters ? 1 : wrong(0));
                answer = t.check(with(letter, "_", arguments));
                due(arguments + " holes for " + letter, answer, arguments == parameters ? 1 : wrong(0));
            }
        }
        due("before the arguments are looked at", t.check("C(B(xx)x)"), wrong(2));
    }

    private static void holesAreNew() {
        Talk t = Worlds.small().constant('R', "T,T>*").constant('I', "a:T,b:T>R(ab)").constant('M', "a:T,b:T,F(a)>R(ab)")
                .constant('N', ">F(E)");
        due("two holes", t.check("I(__)"), 5);
        Report.due("two holes", t.page(), "R(__)");
        due("one of them gets a value", t.check("M(__N)"), 5);
        Report.due("one of them gets a value", t.page(), "R(E_)");
        due("a hole needs no type", t.check("M(_EN)"), 5);
    }

    private static void neverWithStar() {
        Talk t = Worlds.small();
        due("a type for a T", t.check("F(T)"), wrong(2));
        due("# for a T", t.check("F(#)"), wrong(2));
        due("# for a number", t.check("S(#)"), wrong(2));
        due("a type for a number", t.check("S(T)"), wrong(2));
        due("a type with arguments", t.check("S(F(E))"), wrong(2));
        due("a number", t.check("S(0)"), 1);
        due("the type of a type", t.check("F(E)"), 1);
        Report.due("the type of a type", t.page(), "*");
    }

    private static void namesHaveValues() {
        Talk t = Worlds.small().constant('I', "a:T>F(a)").constant('A', "a:T,F(a),a:T,F(a)>F(a)")
                .constant('R', "T,T>*").constant('B', "T,a:T,T>R(aa)");
        due("each by its own", t.check("A(EI(E)D(EE)I(D(EE)))"), 8);
        Report.due("the later one is the result's", t.page(), "F(D(EE))");
        due("the first one's by the later", t.check("A(EI(D(EE))_I(E))"), wrong(3));
        due("the later one's by the first", t.check("A(EI(E)D(EE)I(E))"), wrong(12));
        due("only the named one", t.check("B(ED(EE)E)"), 13);
        Report.due("only the named one", t.page(), "R(D(EE)D(EE))");
    }

    private static void conditionsInTheirOrder() {
        Talk t = Worlds.small().code('G', "a={a|E>D(EE)}").constant('A', "?G(E)=E,T>T").constant('B', "T,?G(E)=E>T")
                .constant('C', "a:T,?G(a)=D(EE),F(a)>T").constant('I', "a:T>F(a)").constant('H', "a:T,F(a),?G(a)=D(EE)>T");
        due("before the argument", t.check("A(Q)"), wrong(0));
        due("behind the argument", t.check("B(Q)"), wrong(2));
        due("behind a good one", t.check("B(E)"), wrong(0));
        due("the hole has no value yet", t.check("C(_I(E))"), wrong(0));
        due("the hole has its value", t.check("H(_I(E))"), 1);
        due("the steps", t.it.steps(), 5);
        due("inside", t.check("D(EB(E))"), wrong(3));
        due("a program that fails", t.check("D(EH(D(EE)I(D(EE))))"), wrong(3));
    }

    private static void placesOfWrongs() {
        Talk t = Worlds.small();
        due("an argument's begin", t.check("D(ES(1))"), wrong(3));
        due("an argument's begin, not its inside", t.check("D(EF(D(EE)))"), wrong(3));
        due("the last of them", t.check("D(D(EE)1)"), wrong(7));
        due("a variable", t.check("D(Ex)"), wrong(3));
        due("a constant that is none", t.check("D(EQ(EE))"), wrong(3));
        due("one with too few arguments", t.check("D(ED(E))"), wrong(3));
        due("one with too many", t.check("D(EE(E))"), wrong(3));
        due("one inside", t.check("D(ED(ED(EQ)))"), wrong(9));
        due("a condition's constant", t.check("D(EK)"), wrong(3));
    }

    private static void theFirstWrongCounts() {
        Talk t = Worlds.small();
        due("left before right", t.check("D(1x)"), wrong(2));
        due("right when left is good", t.check("D(Ex)"), wrong(3));
        due("the inner one before the outer one", t.check("S(D(x1))"), wrong(4));
        due("the inner argument before the outer", t.check("S(D(E1))"), wrong(5));
        due("the outer one then", t.check("S(D(EE))"), wrong(2));
        due("a declaration's", t.declare('X', "x:E,Q>Q"), wrong(2));
        due("a declaration's second", t.declare('X', "x:T,Q>Q"), wrong(4));
        due("a declaration's result", t.declare('X', "x:T,T>Q"), wrong(6));
        due("a program's", t.program('X', "a=+xQ"), wrong(3));
        due("a program's second", t.program('X', "a=+aQ"), wrong(4));
        due("a run's", t.code('N', "abc=a").run('N', "1xQ"), wrong(1));
    }

    private static void declared(String text, int answer) {
        Talk t = Worlds.small();
        due("declare " + text, t.declare('X', text), answer);
        due("kind after " + text, t.it.kind('X'), answer < 0 ? 0 : 1);
        due("parameters after " + text, t.it.parameters('X'), answer < 0 ? ConditionedProofs.NONE : answer);
    }

    private static void typesInDeclarations() {
        declared(">*", 0);
        declared(">#", 0);
        declared(">T", 0);
        declared(">F(E)", 0);
        declared(">1", wrong(1));
        declared(">E", wrong(1));
        declared(">D(EE)", wrong(1));
        declared(">F(T)", wrong(3));
        declared("#>*", 1);
        declared("x:#>*", 1);
        declared("E>*", wrong(0));
        declared("x:E>*", wrong(2));
        declared("x:1>*", wrong(2));
        declared("x:#>x", wrong(4));
        declared("x:T,y:x>*", wrong(6));
        declared("x:x>*", wrong(2));
        declared("x:T,F(x)>F(x)", 2);
        declared("F(x),x:T>*", wrong(2));
        declared("T,F(x)>*", wrong(4));
        declared("X>*", wrong(0));
        declared("#,#,#,#,#,#>*", 6);
        declared("#,#,#,#,#,#>E", wrong(12));
    }

    private static void conditionsInDeclarations() {
        String letters = "ABCG";
        for (int parameters = 1; parameters <= 4; parameters++) {
            for (int terms = 1; terms <= 6; terms++) {
                Talk t = new Talk().code(letters.charAt(parameters - 1), "abcd".substring(0, parameters) + "=a");
                String text = "?" + with(letters.charAt(parameters - 1), "1", terms) + "=1>*";
                due(parameters + " parameters in " + text, t.declare('X', text), terms == parameters ? 0 : wrong(1));
            }
        }
        declared("?Q(x)=x>*", wrong(1));
        declared("?E(x)=x>*", wrong(1));
        declared("?F(E)=E>*", wrong(1));
        declared("?X(1)=1>*", wrong(1));
        declared("?P(x)=y>*", wrong(3));
        declared("?P(1)=y>*", wrong(6));
        declared("?P(T)=#>*", 0);
        declared("?P(F(E))=1>*", 0);
        declared("x:T,?P(x)=x>*", 1);
        declared("?P(x)=1,x:T>*", wrong(3));
        declared("#,#,#,#,#,?P(1)=1>*", 5);
        declared("?P(1)=1,?P(1)=1,?P(1)=1,?P(1)=1,?P(1)=1,?P(1)=1>*", 0);
    }

    private static void noConditionsInDeclarations() {
        String[] texts = {">K", ">N(1)", ">F(M(1))", ">F(D(EM(Q)))", "K>*", "x:N(1)>*", "F(M(1))>*", "?P(J)=1>*",
            "?P(M(1))=1>*", "?P(1)=J>*", "?P(1)=D(EM(1))>*", "?P(F(J))=Q>*"};
        int[] wrongs = {1, 1, 3, 6, 0, 2, 2, 3, 3, 6, 9, 5};
        for (int i = 0; i < texts.length; i++) {
            Talk t = Worlds.small().constant('M', "a:T,?P(a)=a>T").constant('N', "a:T,?P(a)=a>*");
            due("a constant with conditions in " + texts[i], t.declare('X', texts[i]), wrong(wrongs[i]));
        }
        Talk t = Worlds.small().constant('M', "a:T,?P(a)=a>T");
        due("in a check", t.check("F(M(E))"), 1);
        due("in a run", t.run('P', "D(JM(E))"), 8);
        due("in a code", t.program('X', "a={a|M(x)>J|_>M(a)}"), 1);
    }

    private static void namesAreOnlyThemselves() {
        declared("x:T,y:T,?P(x)=y>*", 2);
        Talk t = Worlds.small().constant('L', "a:T,F(a)>*");
        due("itself", t.declare('X', "x:T,y:F(x),L(xy)>*"), 3);
        t = Worlds.small().constant('L', "a:T,F(a)>*");
        due("another one", t.declare('X', "x:T,z:T,y:F(x),L(zy)>*"), wrong(18));
        due("a constant", t.declare('X', "x:T,y:F(x),L(Ey)>*"), wrong(14));
        due("a constant's name", t.declare('X', "y:F(E),L(Ey)>*"), 2);
        t.retract();
        due("a hidden one", t.declare('X', "x:T,y:F(x),x:T,L(xy)>*"), wrong(18));
    }

    private static void variablesOfPrograms() {
        String[] texts = {"a=a", "a=z", "az=z", "abcd=d", "abcd=e", "a={b|_>1}", "a={a|D(xy)>x}", "a={a|D(xy)>z}",
            "a={x|D(xy)>1}", "a={a|D(xy)>1|_>x}", "a=+{a|D(xy)>x}x", "a={a|D(xy)>{y|D(zu)>D(xz)}}",
            "a={a|D(xy)>{y|D(zu)>D(xz)|_>z}}", "a=[b=1?1:1]", "a=[1<b?1:1]", "a=[1=1?b:1]", "a=[1=1?1:b]", "a=P(b)"};
        int[] answers = {1, wrong(2), 2, 4, wrong(5), wrong(3), 1, wrong(11),
            wrong(3), wrong(15), wrong(14), 1,
            wrong(28), wrong(3), wrong(5), wrong(7), wrong(9), wrong(4)};
        for (int i = 0; i < texts.length; i++) {
            Talk t = Worlds.small();
            due("program " + texts[i], t.program('X', texts[i]), answers[i]);
            due("kind after " + texts[i], t.it.kind('X'), answers[i] < 0 ? 0 : 2);
            due("parameters after " + texts[i], t.it.parameters('X'), answers[i] < 0 ? -1 : answers[i]);
        }
    }

    private static void lettersOfPrograms() {
        for (int parameters = 0; parameters <= 6; parameters++) {
            for (int codes = 0; codes <= 6; codes++) {
                Talk t = counted();
                String text = "a=" + with((char) ('A' + parameters), "a", codes);
                due("program " + text, t.program('X', text), codes == parameters ? 1 : wrong(2));
            }
        }
        String names = "abcd";
        for (int parameters = 1; parameters <= 4; parameters++) {
            for (int codes = 0; codes <= 6; codes++) {
                Talk t = new Talk().code('P', names.substring(0, parameters) + "=1");
                boolean fits = codes == parameters;
                String text = "a=" + with('P', "a", codes);
                due(parameters + " parameters in " + text, t.program('X', text), fits ? 1 : wrong(2));
                text = names.substring(0, parameters) + "=" + with('Y', "a", codes);
                due("itself in " + text, t.program('Y', text), fits ? parameters : wrong(parameters + 1));
            }
        }
        due("nothing", new Talk().program('X', "a=A"), wrong(2));
        due("nothing with codes", new Talk().program('X', "a=Z(x)"), wrong(2));
    }

    private static void lettersOfPatterns() {
        for (int parameters = 0; parameters <= 6; parameters++) {
            for (int variables = 0; variables <= 6; variables++) {
                Talk t = counted();
                String text = "a={a|1>1|" + with((char) ('A' + parameters), "x", variables) + ">1}";
                due("program " + text, t.program('X', text), variables == parameters ? 1 : wrong(9));
            }
        }
        due("nothing", new Talk().program('X', "a={a|A>1}"), wrong(5));
        due("a program", new Talk().code('P', "a=a").program('X', "a={a|P(x)>1}"), wrong(5));
        due("itself", new Talk().program('X', "a={a|X(x)>1}"), wrong(5));
    }
}
