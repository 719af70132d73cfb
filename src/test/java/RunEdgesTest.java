/** The edges of running: steps, depth, nodes, pairs, sums that wrap, cases and choices, and of writing. */
public final class RunEdgesTest {
    private static final int LONG = ConditionedProofs.LONG;
    private static final int FAILED = ConditionedProofs.FAILED;
    private static final int WRONG = ConditionedProofs.WRONG;

    public static void main(String[] args) {
        aHundredSteps();
        aHundredStepsEachRun();
        theHundredAndFirstOfEachSort();
        eachCodeIsOneStep();
        thirtyDeep();
        whatLiesOneDeeper();
        constantsOfTwoHundredNodes();
        nodesThroughHoles();
        failingMakesAllAroundFail();
        sumsNeedNumbers();
        sumsWrap();
        casesAndHoles();
        theFirstCaseThatFits();
        innermostVariables();
        lessNeedsNumbers();
        lessOfTheFarthest();
        equalUpToTheFirstDifference();
        equalMeetsHoles();
        equalOfAThousandPairs();
        writingNumbers();
        writingOthers();
        aHundredCharacters();
        Report.finish();
    }

    private static void due(String what, long got, long want) {
        Report.due(what, got, want);
    }

    /** Runs with one text; what is due is a page, or one of FAILED and LONG. */
    private static void gives(Talk t, char letter, String text, String page) {
        String name = "run " + letter + " " + text;
        int answer = t.run(letter, text);
        String got = answer == FAILED ? "failed" : answer == LONG ? "long" : answer < 0 ? "" + answer : t.page();
        Report.due(name, got, page);
    }

    /** A program of its own for one code, run with one term. */
    private static void gives(Talk t, String program, String text, String page) {
        due("program " + program, t.program('X', program), program.indexOf('='));
        gives(t, 'X', text, page);
        t.retract();
    }

    /** A sum of as many variables, as flat as can be: one step less than twice as many. */
    private static String sum(int leaves) {
        return leaves == 1 ? "a" : "+" + sum(leaves / 2) + sum(leaves - leaves / 2);
    }

    /** P makes 47 steps. */
    private static Talk stepping() {
        return new Talk().constant('U', "#>#").constant('D', "#,#>#").constant('E', ">#").code('P', "a=" + sum(24))
                .constant('S', "#>*");
    }

    private static void aHundredSteps() {
        Talk t = stepping();
        gives(t, "a=+P(a)P(a)", "1", "48");
        due("99 steps", t.it.steps(), 99);
        gives(t, "a=U(+P(a)P(a))", "1", "U(48)");
        due("100 steps", t.it.steps(), 100);
        gives(t, "a=U(U(+P(a)P(a)))", "1", "failed");
        due("the 101st is no step", t.it.steps(), 100);
        gives(t, "a=+P(a)+P(a)P(a)", "1", "failed");
        due("nor are those behind it", t.it.steps(), 100);
        gives(t, "a=D(+P(a)P(a)~)", "1", "failed");
        due("failing at the 101st", t.it.steps(), 100);
        gives(t, "a=D(~+P(a)P(a))", "1", "failed");
        due("failing before", t.it.steps(), 2);
    }

    private static void aHundredStepsEachRun() {
        Talk t = stepping().code('A', "a=U(+P(a)P(a))").code('B', "a=U(U(+P(a)P(a)))")
                .constant('I', "a:#,b:#,c:#,?A(1)=a,?A(1)=b,?A(1)=c>S(c)").constant('J', "a:#,b:#,?A(1)=a,?B(1)=b>S(b)");
        due("three conditions", t.check("I(___)"), 8);
        Report.due("three conditions", t.page(), "S(U(48))");
        due("their steps", t.it.steps(), 300);
        due("one that fails", t.check("J(__)"), WRONG);
        due("its steps count", t.it.steps(), 200);
        Talk u = stepping().code('A', "a=U(+P(a)P(a))").constant('H', "a:#,?A(0)=U(a)>#").code('C', "a=U(+P(1)P(1))");
        due("a run behind a condition", u.run('C', "H(0)"), 5);
        due("the steps of both", u.it.steps(), 200);
        due("a condition that does not hold", u.run('C', "H(9)"), WRONG);
        due("its steps count", u.it.steps(), 100);
        due("a run behind none", u.run('A', "0"), 4);
        due("its steps", u.it.steps(), 100);
    }

    /** The code stands where it is worked out as the 99th, the 100th and the 101st. */
    private static void theHundredAndFirstOfEachSort() {
        for (String code : new String[] {"a", "1", "E"}) {
            Talk t = stepping().code('M', "a=" + sum(23));
            String begun = "D(+P(a)M(a)" + code + ")";
            String[] programs = {"a=" + begun, "a=U(" + begun + ")", "a=U(U(" + begun + "))"};
            for (int i = 0; i < programs.length; i++) {
                due("program " + programs[i], t.program('A', programs[i]), 1);
                due("step " + (99 + i) + " is " + code, t.run('A', "1") == FAILED ? 1 : 0, i < 2 ? 0 : 1);
                due("steps up to it", t.it.steps(), Math.min(99 + i, 100));
                t.retract();
            }
        }
    }

    private static void eachCodeIsOneStep() {
        Talk t = Worlds.small().code('C', "ab=b").code('N', "a=1");
        String[] codes = {"a=a", "a=1", "a=E", "a=D(aa)", "a=+11", "a=-11", "a=P(a)", "a=C(1P(a))", "a={a|_>1}",
            "a={a|E>1|_>2}", "a=[a=a?1:2]", "a=[1<2?3:4]", "a=[2<1?3:4]", "a=N(N(N(a)))", "a={D(aa)|D(xy)>D(xy)}"};
        int[] steps = {1, 1, 1, 3, 3, 3, 3, 6, 3,
            3, 4, 4, 4, 7, 7};
        for (int i = 0; i < codes.length; i++) {
            due("program " + codes[i], t.program('X', codes[i]), 1);
            due("run " + codes[i], t.run('X', "E") > 0 ? 1 : 0, 1);
            due("steps of " + codes[i], t.it.steps(), steps[i]);
            t.retract();
        }
        due("one that fails is a step", t.program('X', "a=~"), 1);
        due("it fails", t.run('X', "E"), FAILED);
        due("its steps", t.it.steps(), 1);
    }

    /** The program Y's code lies as deep as is asked for when the program V is run; U adds a depth and a step. */
    private static Talk deep(String code, int depth) {
        Talk t = new Talk().constant('U', "#>#").constant('D', "#,#>#").constant('E', ">#").code('P', "a=a")
                .code('Q', "a=U(a)").code('Y', code);
        int inner = depth - 24;
        return t.code('X', "a=" + "U(".repeat(inner) + "Y(a)" + ")".repeat(inner))
                .code('W', "a=" + "U(".repeat(10) + "X(a)" + ")".repeat(10))
                .code('V', "a=" + "U(".repeat(10) + "W(a)" + ")".repeat(10));
    }

    private static void deepest(String code, int depth) {
        for (int lies = depth - 1; lies <= depth + 1; lies++) {
            boolean good = lies <= depth;
            due(code + " " + lies + " deep", deep(code, lies).run('V', "1") == FAILED ? 0 : 1, good ? 1 : 0);
        }
    }

    private static void thirtyDeep() {
        deepest("a=a", 30);
        deepest("a=7", 30);
        deepest("a=E", 30);
        Talk t = deep("a=a", 30);
        due("30 deep", t.run('V', "1"), 3 * 26 + 1);
        due("its steps", t.it.steps(), 10 + 2 + 10 + 2 + 6 + 2 + 1);
        t = deep("a=a", 31);
        due("31 deep", t.run('V', "1"), FAILED);
        due("the 31st is no step", t.it.steps(), 10 + 2 + 10 + 2 + 7 + 1);
    }

    private static void whatLiesOneDeeper() {
        deepest("a=U(a)", 29);
        deepest("a=D(aU(a))", 28);
        deepest("a=+aa", 29);
        deepest("a=-aa", 29);
        deepest("a=+a+aa", 28);
        deepest("a=-+aaa", 28);
        deepest("a=P(a)", 29);
        deepest("a=Q(a)", 28);
        deepest("a=P(P(a))", 28);
        deepest("a={a|_>a}", 29);
        deepest("a={U(a)|_>a}", 28);
        deepest("a={a|_>U(a)}", 28);
        deepest("a=[a=a?a:a]", 29);
        deepest("a=[a<a?a:a]", 29);
        deepest("a=[U(a)=a?a:a]", 28);
        deepest("a=[a=U(a)?a:a]", 28);
        deepest("a=[a=a?U(a):a]", 28);
        deepest("a=[a=2?a:U(a)]", 28);
        deepest("a=[a=2?U(a):a]", 29);
        deepest("a=[a=a?a:U(a)]", 29);
    }

    private static void constantsOfTwoHundredNodes() {
        for (int nodes = 199; nodes <= 201; nodes++) {
            Talk t = Worlds.growing().code('B', Worlds.nodes(nodes));
            due(nodes + " nodes", t.run('B', "E"), nodes <= 200 ? LONG : FAILED);
            t.constant('I', "a:T,?B(E)=a>T");
            due(nodes + " nodes in a condition", t.check("I(_)"), nodes <= 200 ? 1 : WRONG);
        }
        Talk t = Worlds.growing().code('B', Worlds.nodes(99)).code('C', Worlds.nodes(100));
        due("twice 99", t.code('G', "a=D(B(a)B(a))").run('G', "E"), LONG);
        due("99 and 100", t.code('H', "a=D(B(a)C(a))").run('H', "E"), LONG);
        due("twice 100", t.code('I', "a=D(C(a)C(a))").run('I', "E"), FAILED);
    }

    private static void nodesThroughHoles() {
        for (int nodes = 198; nodes <= 200; nodes++) {
            Talk t = Worlds.growing().code('B', Worlds.nodes(nodes)).code('G', "a=U(a)")
                    .constant('I', "a:T,b:T,?B(E)=a,?G(a)=b>T");
            due("a hole with " + nodes, t.check("I(__)"), nodes < 200 ? 1 : WRONG);
        }
        for (int nodes = 98; nodes <= 100; nodes++) {
            Talk t = Worlds.growing().code('B', Worlds.nodes(nodes)).constant('I', "a:T,b:T,?B(E)=a,?Q(a)=b>T");
            due("twice a hole with " + nodes, t.check("I(__)"), nodes < 100 ? 1 : WRONG);
        }
        for (int nodes = 197; nodes <= 199; nodes++) {
            Talk t = Worlds.growing().code('B', Worlds.nodes(nodes)).code('G', "ab=D(ab)")
                    .constant('I', "a:T,b:T,c:T,?B(E)=a,?G(ab)=c>T");
            due("a hole without a value and " + nodes, t.check("I(___)"), nodes < 199 ? 1 : WRONG);
        }
    }

    private static void failingMakesAllAroundFail() {
        Talk t = Worlds.small().code('N', "a=1").code('M', "ab=b");
        String[] failing = {"a=~", "a=D(~E)", "a=D(E~)", "a=N(~)", "a=M(~1)", "a=+~1", "a=+1~", "a=-~1", "a=-1~",
            "a={~|_>1}", "a={1|_>~}", "a=[~=1?1:1]", "a=[1=~?1:1]", "a=[~<1?1:1]", "a=[1<~?1:1]", "a=[1=1?~:1]",
            "a=[1=2?1:~]", "a=[1<2?~:1]", "a=[1<1?1:~]", "a=D(ED(EN({a|E>+1~})))", "a={a|D(xy)>1}"};
        for (String program : failing) {
            gives(t, program, "E", "failed");
        }
        String[] good = {"a=[1=1?1:~]", "a=[1=2?~:1]", "a={1|1>1|_>~}", "a={a|D(xy)>~|E>1}", "a=[1<2?1:~]", "a=[2<1?~:1]"};
        for (String program : good) {
            gives(t, program, "E", "1");
        }
    }

    private static void sumsNeedNumbers() {
        Talk t = Worlds.small();
        gives(t, "ab=+ab", "00", "0");
        gives(t, "ab=+ab", "99", "18");
        gives(t, "ab=-ab", "99", "0");
        gives(t, "ab=-ab", "09", "-9");
        for (String text : new String[] {"1E", "E1", "EE", "1#", "#1", "##", "1T"}) {
            gives(t, "ab=+ab", text, "failed");
            due("both are worked out", t.it.steps(), 3);
            gives(t, "ab=-ab", text, "failed");
            due("both are worked out", t.it.steps(), 3);
        }
        t.code('A', "ab=+ab").constant('I', "a:#,b:#,c:#,?P(4)=a,?A(ab)=c>S(c)")
                .constant('L', "a:#,c:#,?P(4)=a,?A(aa)=c>S(c)");
        due("a hole", t.check("I(___)"), WRONG);
        due("a hole with a value", t.check("I(_3_)"), 4);
        Report.due("a hole with a value", t.page(), "S(7)");
        due("one twice", t.check("L(__)"), 4);
        Report.due("one twice", t.page(), "S(8)");
    }

    /** H gives 65536 times its number, G 32768 times; the least number is -2147483648, the greatest 2147483647. */
    private static Talk wrapping() {
        return new Talk().constant('S', "#>*").code('D', "a=+aa").code('C', "a=D(D(D(D(a))))")
                .code('G', "a=C(C(C(D(D(D(a))))))").code('H', "a=C(C(C(C(a))))").code('A', "ab=+ab").code('B', "ab=-ab");
    }

    private static void wraps(String sum, String page) {
        Talk t = wrapping().constant('I', "a:#,?H(1)=a>S(a)").constant('J', "a:#,b:#,S(a),?G(a)=b>S(b)");
        due("least", t.check("J(__I(_))"), 14);
        Report.due("least", t.page(), "S(-2147483648)");
        t.lemma('L');
        t.constant('K', "a:#,b:#,S(a),?B(a1)=b>S(b)");
        due("greatest", t.check("K(__L)"), 13);
        Report.due("greatest", t.page(), "S(2147483647)");
        t.lemma('M');
        t.constant('X', "a:#,b:#,c:#,S(a),S(b)," + sum + "=c>S(c)");
        due("sum " + sum, t.check("X(___LM)") < 0 ? 1 : 0, 0);
        Report.due("sum " + sum, t.page(), "S(" + page + ")");
    }

    private static void sumsWrap() {
        wraps("?A(b0)", "2147483647");
        wraps("?A(b1)", "-2147483648");
        wraps("?A(b2)", "-2147483647");
        wraps("?B(a0)", "-2147483648");
        wraps("?B(a1)", "2147483647");
        wraps("?B(a2)", "2147483646");
        wraps("?A(aa)", "0");
        wraps("?A(bb)", "-2");
        wraps("?A(ab)", "-1");
        wraps("?B(0a)", "-2147483648");
        wraps("?B(0b)", "-2147483647");
        wraps("?B(ab)", "1");
        wraps("?B(ba)", "-1");
        wraps("?B(aa)", "0");
    }

    private static void casesAndHoles() {
        Talk t = Worlds.small().code('A', "a={a|_>1}").code('B', "a={a|E>2|D(xy)>3}").code('C', "a={a|D(xy)>y}")
                .constant('I', "a:T,b:#,?A(a)=b>S(b)").constant('L', "a:T,b:#,?P(E)=a,?B(a)=b>S(b)")
                .constant('M', "a:T,b:T,?C(a)=b>F(b)");
        due("a hole without a value, though _ would fit", t.check("I(__)"), WRONG);
        due("its steps", t.it.steps(), 2);
        due("no hole", t.check("I(E_)"), 4);
        due("a hole with a value", t.check("L(__)"), 4);
        Report.due("a hole with a value", t.page(), "S(2)");
        due("a hole in a constant", t.check("M(D(E_)_)"), 4);
        Report.due("a hole in a constant", t.page(), "F(_)");
        due("a constant in a constant", t.check("M(D(_E)_)"), 4);
        Report.due("a constant in a constant", t.page(), "F(E)");
    }

    private static void theFirstCaseThatFits() {
        Talk t = Worlds.small();
        gives(t, "a={a|_>1|0>2}", "0", "1");
        gives(t, "a={a|0>2|_>1}", "0", "2");
        gives(t, "a={a|0>2|0>3}", "0", "2");
        gives(t, "a={a|9>2|_>1}", "9", "2");
        gives(t, "a={a|9>2|_>1}", "8", "1");
        gives(t, "a={a|_>1}", "#", "1");
        gives(t, "a={a|0>1|E>2}", "#", "failed");
        gives(t, "a={+a1|9>1|1>2|0>3}", "9", "failed");
        gives(t, "a={-01|1>1|0>3}", "1", "failed");
        gives(t, "a={a|E>1|T>2|D(xy)>3}", "T", "2");
        gives(t, "a={a|E>1|T>2|D(xy)>3}", "D(EE)", "3");
        gives(t, "a={a|E>1|T>2|D(xy)>3}", "F(E)", "failed");
        gives(t, "a={a|1>1|2>2|3>3|4>4|5>6}", "5", "6");
        gives(t, "a={a|1>1|2>2|3>3|4>4|5>6}", "6", "failed");
        Talk u = new Talk().constant('K', "#,#,#,#,#,#>#");
        gives(u, "a={a|K(uvwxyz)>u}", "K(123456)", "1");
        gives(u, "a={a|K(uvwxyz)>z}", "K(123456)", "6");
        gives(u, "a={a|K(uvwxyz)>K(zyxwvu)}", "K(123456)", "K(654321)");
    }

    private static void innermostVariables() {
        Talk t = Worlds.small().code('B', "ba=D(ab)");
        gives(t, "a={a|D(ab)>a}", "D(ED(EE))", "E");
        gives(t, "a=D({a|D(ab)>b}a)", "D(ED(EE))", "D(D(EE)D(ED(EE)))");
        gives(t, "a={a|D(xy)>{y|D(xz)>D(xz)|_>x}}", "D(D(EE)E)", "D(EE)");
        gives(t, "a={a|D(xy)>{y|D(xz)>x|_>y}}", "D(D(EE)D(ED(EE)))", "E");
        gives(t, "a={a|D(xy)>D({y|E>x|D(xz)>x}x)}", "D(D(EE)D(ED(EE)))", "D(ED(EE))");
        gives(t, "a={a|D(xy)>D({x|D(ab)>a}a)}", "D(D(EE)E)", "D(ED(D(EE)E))");
        gives(t, "a={a|D(xy)>B(xy)}", "D(D(EE)E)", "D(ED(EE))");
    }

    private static void lessNeedsNumbers() {
        Talk t = Worlds.small();
        gives(t, "ab=[a<b?1:0]", "01", "1");
        gives(t, "ab=[a<b?1:0]", "00", "0");
        gives(t, "ab=[a<b?1:0]", "10", "0");
        for (String text : new String[] {"E1", "1E", "EE", "#1", "1#", "##"}) {
            gives(t, "ab=[a<b?1:0]", text, "failed");
            due("both are worked out", t.it.steps(), 3);
        }
        t.code('L', "ab=[a<b?1:0]").constant('I', "a:#,b:#,c:#,?P(4)=a,?L(ab)=c>S(c)");
        due("a hole", t.check("I(___)"), WRONG);
        due("a hole with a value", t.check("I(_5_)"), 4);
        Report.due("a hole with a value", t.page(), "S(1)");
    }

    private static void lessOfTheFarthest() {
        String[] pairs = {"ab", "ba", "aa", "bb", "a0", "0a", "b0", "0b"};
        String[] pages = {"1", "0", "0", "0", "1", "0", "0", "1"};
        for (int i = 0; i < pairs.length; i++) {
            Talk t = wrapping().code('E', "ab=[a<b?1:0]").constant('I', "a:#,?H(1)=a>S(a)")
                    .constant('J', "a:#,b:#,S(a),?G(a)=b>S(b)").constant('K', "a:#,b:#,S(a),?B(a1)=b>S(b)")
                    .constant('X', "a:#,b:#,c:#,S(a),S(b),?E(" + pairs[i] + ")=c>S(c)");
            t.check("J(__I(_))");
            t.lemma('L');
            due("less " + pairs[i], t.check("X(___LK(__L))"), 4);
            Report.due("less " + pairs[i], t.page(), "S(" + pages[i] + ")");
        }
    }

    private static void equalUpToTheFirstDifference() {
        Talk t = Worlds.small();
        String[] same = {"00", "99", "##", "EE", "TT", "D(EE)D(EE)", "F(D(EE))F(D(EE))"};
        String[] different = {"01", "0#", "#0", "0E", "E0", "#E", "TE", "ED(EE)", "D(EE)E", "D(ED(EE))D(EE)", "F(E)F(D(EE))"};
        for (String text : same) {
            gives(t, "ab=[a=b?1:0]", text, "1");
        }
        for (String text : different) {
            gives(t, "ab=[a=b?1:0]", text, "0");
        }
    }

    private static void equalMeetsHoles() {
        Talk t = Worlds.small().code('C', "ab=[a=b?1:0]").constant('I', "a:T,b:T,c:#,?C(ab)=c>S(c)")
                .constant('L', "a:T,c:#,?C(aa)=c>S(c)").constant('M', "a:T,b:T,c:#,?P(E)=a,?C(ab)=c>S(c)");
        String[] terms = {"I(_E_)", "I(E__)", "I(___)", "L(__)", "I(D(_E)D(EE)_)", "I(D(EE)D(_E)_)", "I(D(E_)D(E_)_)",
            "L(D(E_)_)", "I(D(E_)D(D(EE)_)_)", "I(D(D(EE)_)D(E_)_)", "I(D(_E)E_)", "I(ED(__)_)", "M(__1)", "M(_E_)",
            "M(_D(__)_)"};
        String[] pages = {"", "", "", "", "", "", "",
            "", "S(0)", "S(0)", "S(0)", "S(0)", "", "S(1)",
            "S(0)"};
        for (int i = 0; i < terms.length; i++) {
            due("equal in " + terms[i], t.check(terms[i]), pages[i].isEmpty() ? WRONG : 4);
            if (!pages[i].isEmpty()) {
                Report.due("equal in " + terms[i], t.page(), pages[i]);
            }
        }
    }

    private static void equalOfAThousandPairs() {
        String[] terms = {"H(U(a)U(a)aaaa)", "H(U(a)U(a)U(a)aaa)", "H(U(a)U(a)U(a)U(a)aa)"};
        for (int i = 0; i < terms.length; i++) {
            Talk t = Worlds.growing().constant('H', "T,T,T,T,T,T>*").code('B', Worlds.nodes(166)).code('C', "ab=[a=b?1:0]")
                    .constant('I', "a:T,?B(E)=a,?C(" + terms[i] + terms[i] + ")=1>T");
            due(999 + i + " pairs", t.check("I(_)"), i < 2 ? 1 : WRONG);
        }
        String[] left = {"H(U(a)U(a)aaaE)", "H(U(a)U(a)U(a)aaE)", "H(U(a)U(a)U(a)U(a)aE)"};
        String[] right = {"H(U(a)U(a)aaaU(E))", "H(U(a)U(a)U(a)aaU(E))", "H(U(a)U(a)U(a)U(a)aU(E))"};
        for (int i = 0; i < left.length; i++) {
            Talk t = Worlds.growing().constant('H', "T,T,T,T,T,T>*").code('B', Worlds.nodes(199)).code('C', "ab=[a=b?1:0]")
                    .constant('I', "a:T,?B(E)=a,?C(" + left[i] + right[i] + ")=0>T");
            due("a difference at pair " + (999 + i), t.check("I(_)"), i < 2 ? 1 : WRONG);
        }
    }

    private static void writingNumbers() {
        Talk t = new Talk();
        gives(t, "a=0", "1", "0");
        gives(t, "a=a", "9", "9");
        gives(t, "a=+91", "1", "10");
        gives(t, "a=-01", "1", "-1");
        gives(t, "a=-09", "1", "-9");
        gives(t, "a=-0+91", "1", "-10");
        gives(t, "a=+" + sum(9) + "+99", "9", "99");
        gives(t, "a=++" + sum(9) + "+991", "9", "100");
        gives(t, "a=-0++" + sum(9) + "+991", "9", "-100");
    }

    private static void writingOthers() {
        Talk t = Worlds.small().constant('R', "T,T>*").constant('I', "a:T,b:T>R(aD(bE))").constant('L', "a:#,?P(#)=a>S(a)");
        gives(t, "a=a", "#", "#");
        gives(t, "a=a", "E", "E");
        gives(t, "a=a", "D(ED(EE))", "D(ED(EE))");
        gives(t, "a=D(-05+55)", "1", "D(-510)");
        due("holes", t.check("I(__)"), 9);
        Report.due("holes", t.page(), "R(_D(_E))");
        due("a hash in a hole", t.check("L(_)"), 4);
        Report.due("a hash in a hole", t.page(), "S(#)");
        due("a star", t.check("#"), 1);
        Report.due("a star", t.page(), "*");
    }

    private static void aHundredCharacters() {
        Talk t = Worlds.numbers().code('A', "a=U(U(U(U(U(U(U(a)))))))").code('B', "a=K(11111A(a))").code('C', "a=U(B(a))");
        due("99 characters", t.run('A', Worlds.number(78)), 99);
        due("100 characters", t.run('A', Worlds.number(79)), 100);
        String page = t.page();
        due("101 characters", t.run('A', Worlds.number(80)), LONG);
        Report.due("the page stays", t.page(), page);
        due("107 characters", t.run('B', Worlds.number(78)), LONG);
        due("110 characters", t.run('C', Worlds.number(78)), LONG);
        Report.due("the page stays", t.page(), page);
        numbersAtTheEndOfThePage();
    }

    /** The last number has one character, two or three. */
    private static void numbersAtTheEndOfThePage() {
        Talk t = Worlds.numbers().constant('D', "#,#>#");
        String[] numbers = {"9", "+91", "-09", "-0+91"};
        int[] answers = {99, 100, 100, LONG};
        for (int i = 0; i < numbers.length; i++) {
            t.code('X', "a=D(U(U(U(U(U(a)))))" + numbers[i] + ")");
            due("with " + numbers[i], t.run('X', Worlds.number(80)), answers[i]);
            t.retract();
        }
    }
}
