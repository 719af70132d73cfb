/** For each promise of the document: ordinary inputs, the edges it names, and wrong inputs. */
public final class PromisesTest {
    private static final int WRONG = ConditionedProofs.WRONG;
    private static final int LONG = ConditionedProofs.LONG;
    private static final int FAILED = ConditionedProofs.FAILED;

    public static void main(String[] args) {
        newObject();
        type();
        wipe();
        faultsOfTerms();
        faultsOfDeclarations();
        faultsOfPrograms();
        declareAnswers();
        declareWrongs();
        declareHidesNames();
        programAnswers();
        programWrongs();
        checkAnswers();
        checkWrongs();
        checkHoles();
        checkConditions();
        checkLong();
        checkLimitsOfHoles();
        checkLimitOfPairs();
        lemma();
        retract();
        runAnswers();
        runCodes();
        runComparisons();
        runWrongs();
        runLimitOfNodes();
        runLimitOfSteps();
        runLimitOfDepth();
        runLong();
        steps();
        kindAndParameters();
        lengthAndCharAt();
        Report.finish();
    }

    private static void due(String what, long got, long want) {
        Report.due(what, got, want);
    }

    private static int fault(int place) {
        return -1 - place;
    }

    private static int wrong(int place) {
        return WRONG - place;
    }

    private static void newObject() {
        Talk t = new Talk();
        due("1 wipe", t.it.wipe(), 0);
        due("1 length", t.it.length(), 0);
        due("1 charAt", t.it.charAt(0), ' ');
        due("1 steps", t.it.steps(), 0);
        due("1 lemma", t.lemma('A'), Talk.STATE);
        due("1 retract", t.retract(), Talk.STATE);
        for (char c = 'A'; c <= 'Z'; c++) {
            due("1 kind " + c, t.it.kind(c), 0);
            due("1 parameters " + c, t.it.parameters(c), ConditionedProofs.NONE);
        }
        due("1 NONE", ConditionedProofs.NONE, -1);
        due("1 WRONG", WRONG, -100);
        due("1 LONG", LONG, -200);
        due("1 FAILED", FAILED, -300);
    }

    private static void type() {
        Talk t = new Talk();
        due("2 type 31", t.it.type((char) 31) ? 1 : 0, 0);
        due("2 type 127", t.it.type((char) 127) ? 1 : 0, 0);
        due("2 type 0", t.it.type((char) 0) ? 1 : 0, 0);
        due("2 type 65535", t.it.type((char) 65535) ? 1 : 0, 0);
        due("2 nothing typed", t.it.wipe(), 0);
        due("2 type 32", t.it.type((char) 32) ? 1 : 0, 1);
        due("2 type 126", t.it.type((char) 126) ? 1 : 0, 1);
        due("2 two typed", t.it.wipe(), 2);
        for (int i = 0; i < 80; i++) {
            due("2 type number " + i, t.it.type('x') ? 1 : 0, 1);
        }
        due("2 type the 81st", t.it.type('x') ? 1 : 0, 0);
        due("2 eighty typed", t.it.wipe(), 80);
        due("2 type again", t.it.type('#') ? 1 : 0, 1);
        due("2 appended", t.it.check(), 1);
    }

    private static void wipe() {
        Talk t = new Talk();
        due("3 wipe", t.text("###").it.wipe(), 3);
        due("3 wipe again", t.it.wipe(), 0);
        due("3 text is empty", t.it.check(), fault(0));
        due("3 wiped before", t.check("#"), 1);
        due("3 check leaves nothing", t.it.wipe(), 0);
    }

    private static void faultsOfTerms() {
        String[] texts = {"", " ", "* ", "*", "(", ")", "A(", "A()", "A(b", "A(b)c", "#(", "1(", "x(", "_(", "12",
            "A(1234567)", "A(123456", "A((", "A(1,2)", "+11", "~", "A(1)(2)", "?A(1)=1", "A( 1)", "AB"};
        int[] faults = {0, 0, 0, 0, 0, 0, 2, 2, 3, 4, 1, 1, 1, 1, 1,
            8, 8, 2, 3, 0, 0, 4, 0, 2, 1};
        for (int i = 0; i < texts.length; i++) {
            due("6 fault " + texts[i], new Talk().check(texts[i]), fault(faults[i]));
        }
        due("6 eight deep", new Talk().check("A(A(A(A(A(A(A(A)))))))"), WRONG);
        due("6 nine deep", new Talk().check("A(A(A(A(A(A(A(A(1))))))))"), fault(15));
        due("6 eight deep, hole", new Talk().check("A(1A(A(A(A(A(A(_"), fault(16));
    }

    private static void faultsOfDeclarations() {
        String[] texts = {"", "*", ">", ">>", ">**", ">_", "x", "x>*", "x:", "x:>*", "x:_>*", "1>*", "_>*", "#", "#,",
            "#,>*", ",>*", "#;>*", "#,#,#,#,#,#,#>*", "?", "?x", "?F>*", "?F()=1>*", "?F(1>*", "?F(1)>*", "?F(1)=>*",
            "?F(1234567)=1>*", "?F(_)=1>*", "?F(1)=_>*", "A(_)>*", "A(A(A(A(A(A(A(A(1))))))))>*", ">* ", ">A*",
            ">A(A(A(A(A(A(A(A(1))))))))", "?F(A(A(A(A(A(A(A(A(", "x:y:#>*", "(>*", "x:*>*", "*>*"};
        int[] faults = {0, 0, 1, 1, 2, 1, 1, 1, 2, 2, 2, 0, 0, 1, 2,
            2, 0, 1, 11, 1, 1, 2, 3, 4, 5, 6,
            9, 3, 6, 2, 15, 2, 2,
            16, 18, 3, 0, 2, 0};
        for (int i = 0; i < texts.length; i++) {
            Talk t = new Talk();
            due("4 fault " + texts[i], t.declare('X', texts[i]), fault(faults[i]));
            due("4 nothing after " + texts[i], t.it.kind('X'), 0);
            due("4 empty text after " + texts[i], t.it.wipe(), 0);
        }
    }

    private static void faultsOfPrograms() {
        String[] texts = {"", "=", "a", "abcde=a", "abcd", "A=1", "1=1", "a=", "a=#", "a=_", "a=*", "a=aa", "a=A(",
            "a=A()", "a=A(aaaaaaa)", "a=+", "a=+a", "a=+aaa", "a=-1", "a={", "a={a}", "a={a|", "a={a|a>1}", "a={a|1}",
            "a={a|1>", "a={a|1>1", "a={a|1>1|}", "a={a|1>1|1>1|1>1|1>1|1>1|1>1}", "a={a|A(>1}", "a={a|A()>1}",
            "a={a|A(1)>1}", "a={a|A(xxxxxxx)>1}", "a={a|#>1}", "a={a|A(xx>1}", "a=[", "a=[a", "a=[a>", "a=[a=a:",
            "a=[a<a?1]", "a=[a<a?1:]", "a=[a<a?1:1", "a=[a<a?1:1]]", "a=~~", "a=a ", "a,b=1", "a={a|_(x)>1}"};
        int[] faults = {0, 0, 1, 4, 4, 0, 0, 2, 2, 2, 2, 3, 4,
            4, 10, 3, 4, 5, 4, 3, 4, 5, 5, 6,
            7, 8, 9, 24, 7, 7,
            7, 13, 5, 9, 3, 4, 4, 6,
            8, 9, 10, 11, 3, 3, 1, 6};
        for (int i = 0; i < texts.length; i++) {
            Talk t = new Talk();
            due("5 fault " + texts[i], t.program('X', texts[i]), fault(faults[i]));
            due("5 nothing after " + texts[i], t.it.kind('X'), 0);
            due("5 empty text after " + texts[i], t.it.wipe(), 0);
        }
        due("5 twelve deep", new Talk().program('X', "a=+++++++++++aaaaaaaaaaaa"), 1);
        due("5 thirteen deep", new Talk().program('X', "a=++++++++++++a"), fault(13));
        due("5 brace at twelve", new Talk().program('X', "a=+++++++++++{"), fault(13));
        due("5 bracket at twelve", new Talk().program('X', "a=+++++++++++["), fault(13));
        due("5 minus at twelve", new Talk().program('X', "a=-----------1-"), fault(14));
        due("5 letter at twelve", new Talk().program('X', "a=+++++++++++X("), fault(14));
        due("5 braces twelve deep", new Talk().program('X', "a=" + "{".repeat(11) + "a" + "|_>1}".repeat(11)), 1);
        due("5 braces thirteen deep", new Talk().program('X', "a=" + "{".repeat(12)), fault(13));
        String choices = "=1?1:1]".repeat(5) + "aaaaaa";
        due("5 brackets twelve deep", new Talk().program('X', "a=++++++[[[[[a" + choices), 1);
        due("5 brackets thirteen deep", new Talk().program('X', "a=++++++[[[[[[a" + choices), fault(13));
        due("5 a case is one deeper", new Talk().program('X', "a=++++++++++{a|_>+"), fault(17));
        due("5 a choice's ends are one deeper", new Talk().program('X', "a=++++++++++[a=a?a:~]aaaaaaaaaa"), 1);
        due("5 and no deeper", new Talk().program('X', "a=++++++++++[a=a?a:["), fault(19));
        due("5 tilde at twelve", new Talk().program('X', "a=+++++++++++~aaaaaaaaaaa"), 1);
    }

    private static void declareAnswers() {
        Talk t = new Talk();
        due("4 no parts", t.declare('T', ">*"), 0);
        due("4 result", t.declare('E', ">T"), 0);
        due("4 two", t.declare('D', "T,T>T"), 2);
        due("4 named", t.declare('F', "a:T>*"), 1);
        due("4 hanging", t.declare('G', "a:T,F(a),#>F(D(aE))"), 3);
        t.code('P', "a=a");
        due("4 condition", t.declare('H', "a:T,?P(a)=E,F(a),?P(F(a))=#,?P(1)=1,?P(#)=a>F(a)"), 2);
        due("4 six parts", t.declare('I', "#,#,#,#,#,#>#"), 6);
        due("4 only conditions", t.declare('J', "?P(1)=1>T"), 0);
        due("4 bad letter", t.declare('a', ">*"), Talk.ARGUMENT);
        due("4 letter below", t.declare('@', ""), Talk.ARGUMENT);
        due("4 letter above", t.declare('[', ""), Talk.ARGUMENT);
        due("4 taken by a constant", t.declare('T', ""), Talk.STATE);
        due("4 taken by a program", t.declare('P', ""), Talk.STATE);
        due("4 throwing leaves the text", t.it.wipe(), 2);
        due("4 the page stays empty", t.it.length(), 0);
    }

    private static void declareWrongs() {
        String[] texts = {"x:1>*", ">x", ">1", ">E", "E>*", "F(1)>*", "F(EE)>*", "F>*", "Q>*", "P(1)>*", "x:T,F(y)>*",
            "F(x),x:T>*", "x:F(x)>*", "F(J)>*", "K>*", ">K", "F(D(EJ))>*", "x:T>x", "x:#>S(x)", "x:#,F(x)>*",
            "?Q(1)=1>*", "?E(1)=1>*", "?P(11)=1>*", "?P(x)=1>*", "?P(1)=x>*", "?P(J)=1>*", "?P(D(E1))=1>*",
            "?P(1)=J>*", "x:T,?P(x)=D(x#)>*", "F(D(1J))>*", "F(T)>*", "F(F(E))>*", "T,1:#>*", "?P(Q(x))=1>*",
            "X>*", "D(EE)>*", ">D(EE)", "x:T,?X(x)=x>*", "F(D(EQ))>Q"};
        int[] wrongs = {2, 1, 1, 1, 0, 2, 0, 0, 0, 0, 6,
            2, 4, 2, 0, 1, 5, 4, ConditionedProofs.NONE, 6,
            1, 1, 1, 3, 6, 3, 6,
            6, 13, 4, 2, 2, 1000, 3,
            0, 0, 1, 5, 5};
        for (int i = 0; i < texts.length; i++) {
            Talk t = Worlds.small();
            int want = wrongs[i] == ConditionedProofs.NONE ? 1 : wrongs[i] == 1000 ? fault(2) : wrong(wrongs[i]);
            due("4 wrong " + texts[i], t.declare('X', texts[i]), want);
            due("4 kind after " + texts[i], t.it.kind('X'), want < 0 ? 0 : 1);
            due("4 text after " + texts[i], t.it.wipe(), 0);
        }
    }

    private static void declareHidesNames() {
        Talk t = Worlds.small();
        due("4 a later name hides", t.declare('G', "a:#,a:T,F(a)>F(a)"), 3);
        due("4 the hidden type is gone", t.declare('H', "a:T,a:#,F(a)>*"), wrong(10));
        t.constant('M', ">F(E)").constant('L', "a:T,F(a)>*");
        due("4 hidden in a check", t.check("G(1EM)"), 4);
        Report.due("4 page", t.page(), "F(E)");
        due("4 names are only themselves", t.declare('N', "a:T,b:F(a),c:T,L(cb)>*"), wrong(18));
        due("4 a hidden name stays another", t.declare('N', "a:T,b:F(a),a:T,L(ab)>*"), wrong(18));
        due("4 the same name", t.declare('N', "a:T,b:F(a),c:T,L(ab)>*"), 4);
    }

    private static void programAnswers() {
        Talk t = Worlds.small();
        due("5 one", t.program('A', "a=a"), 1);
        due("5 four", t.program('B', "abcd=+ab"), 4);
        due("5 itself", t.program('C', "a={a|0>E|E>0|D(xy)>C(x)|_>C(-a1)}"), 1);
        due("5 all codes", t.program('G', "ab=[a<b?{a|1>~|_>-ab}:[a=b?D(ab)|"), fault(32));
        due("5 all codes", t.program('G', "ab=[a<b?{a|1>~|_>-ab}:[a=b?D(ab):B(1234)]]"), 2);
        due("5 conditions do not matter", t.program('H', "a={a|J>K|_>J}"), 1);
        due("5 bad letter", t.program('!', "a=a"), Talk.ARGUMENT);
        due("5 taken", t.program('T', ""), Talk.STATE);
        due("5 taken by a program", t.program('P', ""), Talk.STATE);
        due("5 throwing leaves the text", t.it.wipe(), 3);
    }

    private static void programWrongs() {
        String[] texts = {"a=b", "a=Q", "a=Q(1)", "a=D(a)", "a=D", "a=D(aab)", "a=P", "a=P(aa)", "a=X(aa)", "a=X",
            "a={b|_>1}", "a={a|Q>1}", "a={a|D>1}", "a={a|D(x)>1}", "a={a|P(x)>1}", "a={a|X(x)>1}", "a={a|D(xy)>z}",
            "a={a|D(xy)>x|_>x}", "a=+{a|D(xy)>x|_>1}x", "a=[x=a?1:1]", "a=[1=x?1:1]", "a=[1=1?x:1]", "a=[1=1?1:x]",
            "a=D(bQ)", "a=D(Qb)", "a={a|D(xy)>{x|E>y|D(yz)>+xz|_>z}|_>1}", "a={a|E>b|Q>1}", "a=-b1", "a=-1b"};
        int[] wrongs = {2, 2, 2, 2, 2, 2, 2, 2, 2, 2,
            3, 5, 5, 5, 5, 5, 11,
            15, 18, 3, 5, 7, 9,
            4, 4, 30, 7, 3, 4};
        for (int i = 0; i < texts.length; i++) {
            Talk t = Worlds.small();
            due("5 wrong " + texts[i], t.program('X', texts[i]), wrong(wrongs[i]));
            due("5 kind after " + texts[i], t.it.kind('X'), 0);
            due("5 text after " + texts[i], t.it.wipe(), 0);
        }
    }

    private static void checkAnswers() {
        Talk t = Worlds.small();
        String[] terms = {"#", "7", "T", "E", "D(EE)", "F(D(EE))", "S(3)", "J", "K"};
        String[] types = {"*", "#", "*", "T", "T", "*", "*", "T", "*"};
        for (int i = 0; i < terms.length; i++) {
            due("6 check " + terms[i], t.check(terms[i]), types[i].length());
            Report.due("6 page of " + terms[i], t.page(), types[i]);
            due("6 the text is empty after " + terms[i], t.it.wipe(), 0);
        }
        t.constant('G', "a:T,F(a),n:#>F(D(aD(aE)))").constant('M', ">F(E)");
        due("6 by values", t.check("G(EM5)"), 12);
        Report.due("6 page", t.page(), "F(D(ED(EE)))");
        t.constant('C', "a:#>S(a)");
        due("6 a number in it", t.check("C(9)"), 4);
        Report.due("6 page", t.page(), "S(9)");
    }

    private static void checkWrongs() {
        String[] texts = {"_", "x", "Q", "P", "P(1)", "D", "D(E)", "D(EEE)", "D(ET)", "D(E1)", "D(1E)", "D(xE)", "D(EQ)",
            "D(D(EE)D(EQ))", "D(D(EE)D(E))", "F(T)", "F(#)", "S(S(1))", "D(D(1Q)Q)", "Q(x)", "D(ED(EP))", "S(E)"};
        int[] wrongs = {0, 0, 0, 0, 0, 0, 0, 0, 3, 3, 2, 2, 3,
            10, 7, 2, 2, 2, 4, 0, 6, 2};
        for (int i = 0; i < texts.length; i++) {
            Talk t = Worlds.small();
            t.check("E");
            due("6 wrong " + texts[i], t.check(texts[i]), wrong(wrongs[i]));
            Report.due("6 the page stays after " + texts[i], t.page(), "T");
            due("6 no result after " + texts[i], t.lemma('Z'), Talk.STATE);
            due("6 empty text after " + texts[i], t.it.wipe(), 0);
        }
        Talk t = Worlds.small();
        t.check("E");
        due("6 a fault", t.check("E("), fault(2));
        Report.due("6 the page stays after a fault", t.page(), "T");
        due("6 no result after a fault", t.lemma('Z'), Talk.STATE);
    }

    private static void checkHoles() {
        Talk t = Worlds.small().constant('M', ">F(D(EE))").constant('G', "a:T,b:T,F(D(ab))>F(a)")
                .constant('H', "a:T,b:T,F(a),F(b)>F(D(ab))").constant('I', "a:T>F(a)").constant('C', "a:#>S(a)")
                .constant('L', "a:T,F(a),F(D(aa))>F(a)");
        due("6 holes filled", t.check("G(__M)"), 4);
        Report.due("6 page", t.page(), "F(E)");
        due("6 a hole stays", t.check("H(__I(_)M)"), 12);
        Report.due("6 page", t.page(), "F(D(_D(EE)))");
        due("6 no lemma with a hole", t.lemma('Z'), Talk.STATE);
        due("6 two holes made one", t.check("L(_I(_)I(_))"), 4);
        Report.due("6 page", t.page(), "F(_)");
        t.constant('N', "a:T,F(a),F(a)>F(a)");
        due("6 holes filled from both sides", t.check("N(_I(D(_E))I(D(E_)))"), 8);
        Report.due("6 page", t.page(), "F(D(EE))");
        due("6 only the first difference counts", t.check("N(_I(D(EE))I(E))"), wrong(11));
        due("6 a hole takes a number", t.check("C(_)"), 4);
        Report.due("6 page", t.page(), "S(_)");
        occursInItself();
    }

    private static void occursInItself() {
        Talk t = Worlds.small().constant('Q', "T,T>*").constant('B', "a:T>Q(aa)").constant('C', "a:T,Q(aD(aE))>T")
                .constant('G', "a:T,b:T>Q(ab)").constant('H', "a:T,b:T,Q(ab),Q(bD(aE))>T");
        due("6 a hole that lies in its value", t.check("C(_B(_))"), wrong(3));
        due("6 a hole that does not", t.check("C(_G(__))"), 1);
        due("6 a hole seen through another", t.check("H(__B(_)B(_))"), wrong(8));
        due("6 the same hole twice", t.check("H(__B(_)G(__))"), 1);
    }

    private static void checkConditions() {
        Talk t = Worlds.small().code('I', "a={a|E>D(EE)|D(xy)>y}").constant('M', ">F(D(EE))")
                .constant('G', "a:T,b:T,?I(a)=b>F(b)").constant('H', "a:T,?I(a)=a,F(a)>F(a)")
                .constant('N', "a:T,F(a),b:T,?I(a)=D(bb)>F(b)").constant('L', "?I(E)=E>T");
        due("6 a condition fills", t.check("G(E_)"), 8);
        Report.due("6 page", t.page(), "F(D(EE))");
        due("6 a condition agrees", t.check("G(D(ED(EE))D(E_))"), 8);
        due("6 a condition does not agree", t.check("G(EE)"), wrong(0));
        due("6 a program that fails at a hole", t.check("G(__)"), wrong(0));
        due("6 a program without a case", t.check("D(EG(EE))"), wrong(3));
        due("6 before the later argument", t.check("H(EQ)"), wrong(0));
        due("6 before the later argument", t.check("D(EH(E1))"), wrong(3));
        due("6 a term behind =", t.check("N(_M_)"), wrong(0));
        t.constant('O', ">F(E)");
        due("6 a term behind = is filled", t.check("N(_O_)"), 4);
        Report.due("6 page", t.page(), "F(E)");
        due("6 a constant without parameters", t.check("L"), wrong(0));
        due("6 such a one inside", t.check("D(EL)"), wrong(3));
        due("6 the first wrong counts", t.check("D(LQ)"), wrong(2));
    }

    private static final String NODES_166 = Worlds.nodes(166);
    private static final String NODES_199 = Worlds.nodes(199);
    private static final String NODES_200 = Worlds.nodes(200);
    private static final String NODES_201 = Worlds.nodes(201);
    private static final String WIDE_97 = "a=Q(Q(U(Q(U(Q(a))))))";
    private static final String WIDE_98 = "a=U(Q(U(Q(U(Q(U(U(a))))))))";
    private static final String WIDE_100 = "a=U(Q(Q(U(Q(U(Q(a)))))))";
    private static final String WIDE_101 = "a=Q(Q(Q(U(U(U(a))))))";

    private static void checkLong() {
        Talk t = Worlds.growing().code('B', WIDE_97).constant('I', "a:T,?B(E)=a>F(a)");
        due("6 a hundred characters", t.check("I(_)"), 100);
        String page = t.page();
        due("6 steps of it", t.it.steps(), 19);
        due("6 a result", t.lemma('L'), 0);
        due("6 the lemma is as long", t.check("L"), 100);
        Report.due("6 and the same", t.page(), page);
        t.constant('O', "a:T,F(a)>F(U(a))");
        due("6 more than a hundred", t.check("O(_L)"), LONG);
        Report.due("6 the page stays", t.page(), page);
        due("6 no result", t.lemma('M'), Talk.STATE);
        Talk u = Worlds.growing().code('B', WIDE_98).constant('I', "a:T,?B(E)=a>F(a)");
        due("6 the width of a value", u.run('B', "E"), 98);
        due("6 a hundred and one", u.check("I(_)"), LONG);
        due("6 the page stays", u.it.length(), 98);
        due("6 steps count all the same", u.it.steps(), 9 + 9);
    }

    private static void checkLimitsOfHoles() {
        Talk t = Worlds.growing().constant('O', "a:T,F(a)>F(U(a))").code('B', NODES_200)
                .constant('I', "a:T,?B(E)=a>F(a)").code('C', NODES_199).constant('J', "a:T,?C(E)=a>F(a)");
        due("6 a hole takes 200 nodes", t.check("I(_)"), LONG);
        due("6 and again", t.check("O(_I(_))"), LONG);
        due("6 but not 201", t.check("O(_O(_I(_)))"), wrong(3));
        due("6 199 and one more", t.check("O(_O(_J(_)))"), LONG);
        due("6 199 and two more", t.check("O(_O(_O(_J(_))))"), wrong(3));
    }

    private static void checkLimitOfPairs() {
        Talk t = Worlds.growing().constant('H', "T,T,T,T,T,T>*").code('B', NODES_199)
                .constant('Y', "a:T,?B(E)=a>H(U(a)U(a)U(a)aaa)").constant('Z', "a:T,H(U(a)U(a)U(a)aaa)>T")
                .constant('V', "a:T,?B(E)=a>H(U(a)U(a)U(a)U(a)aa)").constant('W', "a:T,H(U(a)U(a)U(a)U(a)aa)>T");
        due("6 a thousand pairs", t.check("Z(_Y(_))"), 1);
        due("6 one pair more", t.check("W(_V(_))"), wrong(3));
    }

    private static void lemma() {
        Talk t = Worlds.small();
        due("7 no result", t.lemma('L'), Talk.STATE);
        t.check("#");
        due("7 bad letter", t.lemma('l'), Talk.ARGUMENT);
        due("7 taken", t.lemma('T'), Talk.STATE);
        due("7 taken by a program", t.lemma('P'), Talk.STATE);
        due("7 a star", t.lemma('A'), 0);
        due("7 kind", t.it.kind('A'), 1);
        due("7 no parameters", t.it.parameters('A'), 0);
        due("7 checked", t.check("A"), 1);
        Report.due("7 page", t.page(), "*");
        due("7 as a type", t.declare('B', "A>A"), 1);
        due("7 another result", t.check("D(EE)"), 1);
        due("7 once", t.lemma('C'), 0);
        due("7 twice", t.lemma('G'), 0);
        due("7 both", t.check("D(CG)"), 1);
        due("7 a number's type", t.check("4"), 1);
        due("7 it", t.lemma('H'), 0);
        due("7 it is a number", t.check("S(H)"), 1);
        due("7 a run leaves the result", t.run('P', "E"), 1);
        due("7 so it can be used", t.lemma('I'), 0);
        due("7 with no arguments", t.check("I(1)"), WRONG);
        due("7 then none is left", t.lemma('M'), Talk.STATE);
        t.check("E");
        t.declare('M', ">_");
        due("7 a declaration leaves the result", t.lemma('M'), 0);
        due("7 throwing changes nothing", t.check("M"), 1);
        minimalNumber();
        deepestLemma();
    }

    private static void deepestLemma() {
        Talk t = Worlds.growing().code('V', "a=U(U(U(U(U(U(U(U(a))))))))").code('B', "a=V(V(V(V(a))))")
                .constant('I', "a:T,?B(E)=a>F(a)").constant('O', "a:T,F(a)>F(a)");
        due("7 34 levels", t.check("I(_)"), 100);
        String page = t.page();
        due("7 kept", t.lemma('L'), 0);
        due("7 another page", t.check("E"), 1);
        due("7 used", t.check("O(_L)"), 100);
        Report.due("7 the same", t.page(), page);
    }

    private static void minimalNumber() {
        Talk t = new Talk().constant('S', "#>*").constant('B', "a:#>S(a)").code('D', "a=+aa").code('C', "a=D(D(D(D(a))))")
                .code('G', "a=C(C(C(D(D(D(a))))))").code('H', "a=C(C(C(C(a))))")
                .constant('I', "a:#,b:#,S(a),?G(a)=b>S(b)").constant('J', "a:#,b:#,S(a),?H(a)=b>S(b)")
                .code('M', "a=-a1").constant('K', "a:#,b:#,S(a),?M(a)=b>S(b)");
        due("7 a power of two", t.check("J(__B(1))"), 8);
        Report.due("7 page", t.page(), "S(65536)");
        due("7 kept", t.lemma('L'), 0);
        due("9 the sum wraps", t.check("I(__L)"), 14);
        Report.due("7 page", t.page(), "S(-2147483648)");
        due("7 kept", t.lemma('N'), 0);
        due("9 the difference wraps", t.check("K(__N)"), 13);
        Report.due("7 page", t.page(), "S(2147483647)");
        due("9 it wraps to nothing", t.check("J(__L)"), 4);
        Report.due("7 page", t.page(), "S(0)");
        due("9 below nothing", t.check("K(__B(0))"), 5);
        Report.due("7 page", t.page(), "S(-1)");
    }

    private static void retract() {
        Talk t = new Talk().constant('T', ">*").constant('E', ">T").code('P', "a=E");
        t.check("E");
        due("8 a result", t.lemma('L'), 0);
        t.check("L");
        due("8 a lemma", t.retract(), 'L');
        due("8 it is nothing", t.it.kind('L'), 0);
        due("8 no result", t.lemma('L'), Talk.STATE);
        due("8 the page stays", t.it.length(), 1);
        due("8 a program", t.retract(), 'P');
        due("8 it is nothing", t.it.kind('P'), 0);
        due("8 it runs no more", t.run('P', "E"), Talk.ARGUMENT);
        due("8 the text stays", t.it.wipe(), 1);
        due("8 a wrong is not declared", t.declare('X', ">Q"), wrong(1));
        due("8 a constant", t.retract(), 'E');
        due("8 it has no type", t.check("E"), WRONG);
        due("8 again", t.declare('E', "#>T"), 1);
        due("8 another one", t.check("E(1)"), 1);
        due("8 back", t.retract(), 'E');
        due("8 the first", t.retract(), 'T');
        due("8 nothing is left", t.retract(), Talk.STATE);
        for (char c = 'A'; c <= 'Z'; c++) {
            due("8 all letters", t.declare(c, ">*"), 0);
        }
        for (char c = 'Z'; c >= 'A'; c--) {
            due("8 all back", t.retract(), c);
        }
        due("8 nothing", t.retract(), Talk.STATE);
    }

    private static void runAnswers() {
        Talk t = Worlds.small().code('C', "ab=D(ab)").code('B', "abcd=D(D(ab)D(cd))").code('G', "aa=a");
        due("9 one", t.run('P', "7"), 1);
        Report.due("9 page", t.page(), "7");
        due("9 a hash", t.run('P', "#"), 1);
        Report.due("9 page", t.page(), "#");
        due("9 a type", t.run('P', "F(E)"), 4);
        due("9 two", t.run('C', "ED(EE)"), 9);
        Report.due("9 page", t.page(), "D(ED(EE))");
        due("9 four", t.run('B', "1E#T"), 13);
        Report.due("9 page", t.page(), "D(D(1E)D(#T))");
        due("9 the later of two with one name", t.run('G', "12"), 1);
        Report.due("9 page", t.page(), "2");
        due("9 the text is empty", t.it.wipe(), 0);
    }

    private static void runCodes() {
        Talk t = Worlds.small().constant('I', "T,T,T,T,T,T>T")
                .code('A', "a={a|E>1|D(xy)>{y|D(xz)>x|_>y}|3>{a|4>5|_>6}|_>8}")
                .code('B', "ab=-ab").code('C', "ab=+-abb").code('G', "a={a|I(uvwxyz)>I(zyxwvu)}")
                .code('H', "a={a|D(xx)>x|E>~}").code('M', "ab={a|_>b}").code('N', "a=+a~").code('O', "a=D(a+aa)");
        String[][] runs = {{"A", "E", "1"}, {"A", "D(ED(TT))", null}, {"A", "D(ED(D(EE)E))", "D(EE)"},
            {"A", "D(D(EE)E)", "E"}, {"A", "3", "6"}, {"A", "#", "8"}, {"A", "T", "8"}, {"A", "4", "8"},
            {"B", "39", "-6"}, {"B", "93", "6"}, {"B", "E3", ""}, {"B", "3E", ""}, {"B", "3#", ""}, {"C", "59", "5"},
            {"G", "I(ED(EE)EEEE)", "I(EEEED(EE)E)"}, {"G", "E", ""}, {"H", "D(ED(EE))", "D(EE)"}, {"H", "E", ""},
            {"H", "4", ""}, {"M", "#4", "4"}, {"N", "1", ""}, {"O", "E", ""}, {"O", "4", "D(48)"}};
        for (String[] row : runs) {
            String name = "9 run " + row[0] + " " + row[1];
            t.it.wipe();
            int answer = t.run(row[0].charAt(0), row[1]);
            if (row[2] == null) {
                due(name, answer, wrong(5));
            } else if (row[2].isEmpty()) {
                due(name, answer, FAILED);
            } else {
                due(name, answer, row[2].length());
                Report.due(name, t.page(), row[2]);
            }
        }
    }

    private static void runComparisons() {
        Talk t = Worlds.small().code('C', "ab=[a=b?1:0]").code('L', "ab=[a<b?1:0]")
                .constant('A', "a:T,b:T,c:#,?C(ab)=c>S(c)").constant('B', "a:T,c:#,?C(aa)=c>S(c)")
                .constant('G', "a:#,b:#,c:#,?L(ab)=c>S(c)");
        String[] same = {"11", "12", "EE", "E1", "##", "#T", "D(EE)D(EE)", "D(EE)D(ED(EE))", "DD"};
        int[] answers = {1, 0, 1, 0, 1, 0, 1, 0, 2};
        for (int i = 0; i < same.length; i++) {
            int answer = t.run('C', same[i]);
            due("9 = " + same[i], answer, answers[i] == 2 ? wrong(0) : 1);
            if (answers[i] != 2) {
                due("9 = " + same[i], t.it.charAt(0), '0' + answers[i]);
            }
        }
        String[] less = {"12", "21", "11"};
        for (int i = 0; i < less.length; i++) {
            due("9 < " + less[i], t.run('L', less[i]), 1);
            due("9 < " + less[i], t.it.charAt(0), i == 0 ? '1' : '0');
        }
        due("9 < of a constant", t.run('L', "E1"), FAILED);
        due("9 < of a constant", t.run('L', "1E"), FAILED);
        due("9 < of a hash", t.run('L', "##"), FAILED);
        due("9 = meets a hole", t.check("A(_E_)"), WRONG);
        due("9 = meets a hole on the right", t.check("A(E__)"), WRONG);
        due("9 = meets one hole twice", t.check("B(__)"), WRONG);
        due("9 = ends before the hole", t.check("A(D(ED(__))D(D(__)_)_)"), 4);
        Report.due("9 page", t.page(), "S(0)");
        due("9 = goes from the left", t.check("A(D(_E)D(_D(EE))_)"), WRONG);
        due("9 < meets a hole", t.check("G(_1_)"), WRONG);
        comparisonsOfAThousand();
    }

    private static void comparisonsOfAThousand() {
        Talk t = Worlds.growing().constant('H', "T,T,T,T,T,T>*").code('B', NODES_166).code('G', NODES_199)
                .code('C', "ab=[a=b?1:0]")
                .constant('I', "a:T,b:#,?B(E)=a,?C(H(U(a)U(a)U(a)aaa)H(U(a)U(a)U(a)aaa))=b>T")
                .constant('J', "a:T,b:#,?B(E)=a,?C(H(U(a)U(a)U(a)U(a)aa)H(U(a)U(a)U(a)U(a)aa))=b>T")
                .constant('K', "a:T,?G(E)=a,?C(H(U(a)U(a)U(a)aaE)H(U(a)U(a)U(a)aaU(E)))=0>T")
                .constant('L', "a:T,?G(E)=a,?C(H(U(a)U(a)U(a)U(a)aE)H(U(a)U(a)U(a)U(a)aU(E)))=0>T");
        due("9 = of a thousand pairs", t.check("I(_1)"), 1);
        due("9 = of one pair more", t.check("J(__)"), WRONG);
        due("9 = differs at the thousandth", t.check("K(_)"), 1);
        due("9 = differs behind it", t.check("L(_)"), WRONG);
    }

    private static void runWrongs() {
        Talk t = Worlds.small().code('C', "ab=D(ab)").code('I', "a={a|E>D(EE)|D(xy)>y}").constant('G', "a:T,?I(a)=E>T");
        due("9 no program", t.run('T', "E"), Talk.ARGUMENT);
        due("9 nothing", t.run('Z', ""), Talk.ARGUMENT);
        due("9 no letter", t.run('c', ""), Talk.ARGUMENT);
        due("9 no letter", t.run((char) 0, ""), Talk.ARGUMENT);
        due("9 throwing leaves the text", t.it.wipe(), 1);
        due("9 no text", t.run('P', ""), fault(0));
        due("9 a hole", t.run('P', "_"), fault(0));
        due("9 a hole inside", t.run('P', "D(E_)"), fault(3));
        due("9 too deep", t.run('P', "1D(D(D(D(D(D(D(D("), fault(16));
        due("9 open", t.run('P', "1D(1"), fault(4));
        due("9 seven", t.run('P', "1234567"), fault(6));
        due("9 six", t.run('P', "123456"), WRONG);
        due("9 too few", t.run('C', "Q"), WRONG);
        due("9 too many", t.run('C', "QQQ"), WRONG);
        due("9 a variable", t.run('C', "1x"), wrong(1));
        due("9 no constant", t.run('C', "QQ"), wrong(0));
        due("9 a program", t.run('C', "EP"), wrong(1));
        due("9 an argument", t.run('C', "ED(1E)"), wrong(3));
        due("9 a condition", t.run('C', "EG(E)"), wrong(1));
        due("9 steps of it", t.it.steps(), 5);
        due("9 a good one", t.run('C', "EG(D(EE))"), 12);
        Report.due("9 page", t.page(), "D(EG(D(EE)))");
        due("9 steps of it", t.it.steps(), 3 + 3);
        due("9 failing", t.run('I', "1"), FAILED);
        Report.due("9 the page stays", t.page(), "D(EG(D(EE)))");
        due("9 the text is empty", t.it.wipe(), 0);
    }

    private static void runLimitOfNodes() {
        Talk t = Worlds.growing().code('A', NODES_200).code('B', NODES_201).code('C', "a=E");
        due("9 200 nodes", t.run('A', "E"), LONG);
        due("9 steps of them", t.it.steps(), 10 + 18);
        due("9 201 nodes", t.run('B', "E"), FAILED);
        due("9 steps before them", t.it.steps(), 10 + 18);
        due("9 holes are looked through", holesAreLookedThrough(), WRONG);
    }

    private static int holesAreLookedThrough() {
        Talk t = Worlds.growing().code('A', NODES_200).code('B', "a=U(a)").code('C', "a=E")
                .constant('I', "a:T,b:T,?A(E)=a,?C(a)=E,?B(a)=b>T");
        return t.check("I(__)");
    }

    /** A sum of as many variables, as flat as can be. */
    private static String sum(int leaves) {
        return leaves == 1 ? "a" : "+" + sum(leaves / 2) + sum(leaves - leaves / 2);
    }

    private static void runLimitOfSteps() {
        Talk t = new Talk().constant('S', "#>#").code('P', "a=" + sum(24)).code('A', "a=S(+P(a)P(a))")
                .code('B', "a=+P(a)+aP(a)").code('C', "a=S(S(+P(a)P(a)))").constant('T', "a:#,b:#,?A(1)=a,?A(1)=b>#");
        due("9 99 and one steps", t.run('A', "1"), 5);
        Report.due("9 page", t.page(), "S(48)");
        due("10 steps", t.it.steps(), 100);
        due("9 one more", t.run('B', "1"), FAILED);
        due("10 steps", t.it.steps(), 100);
        due("9 one more outside", t.run('C', "1"), FAILED);
        due("10 steps", t.it.steps(), 100);
        due("9 each run has its own", t.check("T(__)"), 1);
        due("10 steps of all", t.it.steps(), 200);
        t.code('D', "a=D(a)");
        due("9 for ever", t.run('D', "1"), FAILED);
        due("10 steps", t.it.steps(), 59);
        t.code('E', "a=E(+aa)");
        due("9 for ever", t.run('E', "1"), FAILED);
    }

    private static void runLimitOfDepth() {
        Talk t = new Talk().code('R', "n={n|0>0|_>R(-n1)}").code('A', "a=R(+a9)").code('B', "a=A(a)").code('C', "a=B(a)");
        due("9 29 deep", t.run('A', "4"), 1);
        due("9 30 deep", t.run('B', "4"), 1);
        due("10 steps", t.it.steps(), 87);
        due("9 31 deep", t.run('C', "4"), FAILED);
        due("10 steps", t.it.steps(), 84);
    }

    private static void runLong() {
        Talk t = Worlds.growing().code('A', WIDE_100).code('B', WIDE_101);
        due("9 a hundred characters", t.run('A', "E"), 100);
        String page = t.page();
        due("9 more", t.run('B', "E"), LONG);
        Report.due("9 the page stays", t.page(), page);
        Talk u = new Talk().constant('N', "#,#,#,#,#,#>#").code('M', "a=N(aaaaaa)").code('A', "a=M(M(-aa))")
                .code('B', "a=N(M(a)M(a)M(a)M(a)M(a)M(a))").code('C', "a=M(M(-01))");
        due("9 narrow numbers", u.run('B', "1"), 57);
        due("9 minus signs count", u.run('C', "1"), 93);
    }

    private static void steps() {
        Talk t = Worlds.small().code('I', "a={a|E>D(EE)|D(xy)>y}").constant('G', "a:T,?I(a)=E>T").code('N', "a=~");
        due("10 none", t.it.steps(), 0);
        due("10 a run", t.run('I', "E"), 5);
        due("10 its steps", t.it.steps(), 5);
        due("10 a throwing run", t.run('T', ""), Talk.ARGUMENT);
        due("10 the same steps", t.it.steps(), 5);
        due("10 a declaration", t.declare('X', ">T"), 0);
        due("10 the same steps", t.it.steps(), 5);
        due("10 a check without", t.check("E"), 1);
        due("10 none", t.it.steps(), 0);
        due("10 a check", t.check("D(G(D(EE))G(E))"), wrong(10));
        due("10 steps of both", t.it.steps(), 3 + 5);
        due("10 a fault", t.check("D("), fault(2));
        due("10 none", t.it.steps(), 0);
        due("10 a failing one", t.run('N', "1"), FAILED);
        due("10 its steps", t.it.steps(), 1);
        due("10 a faulty run", t.run('N', "_"), fault(0));
        due("10 none", t.it.steps(), 0);
    }

    private static void kindAndParameters() {
        Talk t = Worlds.small().code('C', "abcd=a").constant('G', "a:T,?P(a)=a,F(a),?P(a)=a>T");
        due("11 a constant", t.it.kind('T'), 1);
        due("11 a program", t.it.kind('P'), 2);
        due("11 nothing", t.it.kind('Z'), 0);
        due("11 a small letter", t.it.kind('t'), 0);
        due("11 below", t.it.kind('@'), 0);
        due("11 above", t.it.kind('['), 0);
        due("11 code 0", t.it.kind((char) 0), 0);
        due("11 code 65535", t.it.kind((char) 65535), 0);
        due("12 none", t.it.parameters('T'), 0);
        due("12 two", t.it.parameters('D'), 2);
        due("12 a program", t.it.parameters('C'), 4);
        due("12 without conditions", t.it.parameters('G'), 2);
        due("12 nothing", t.it.parameters('Z'), ConditionedProofs.NONE);
        due("12 a small letter", t.it.parameters('t'), ConditionedProofs.NONE);
        due("12 code 65535", t.it.parameters((char) 65535), ConditionedProofs.NONE);
    }

    private static void lengthAndCharAt() {
        Talk t = Worlds.small().constant('M', "a:T>F(a)");
        t.check("M(E)");
        due("13 length", t.it.length(), 4);
        due("14 first", t.it.charAt(0), 'F');
        due("14 last", t.it.charAt(3), ')');
        due("14 behind", t.it.charAt(4), ' ');
        due("14 before", t.it.charAt(-1), ' ');
        due("14 far behind", t.it.charAt(Integer.MAX_VALUE), ' ');
        due("14 far before", t.it.charAt(Integer.MIN_VALUE), ' ');
        t.check("1");
        due("13 shorter", t.it.length(), 1);
        due("14 the old page is gone", t.it.charAt(1), ' ');
        t.check("Q");
        due("13 it stays", t.it.length(), 1);
        t.run('P', "D(EE)");
        due("13 a run's", t.it.length(), 5);
        due("14 a run's", t.it.charAt(2), 'E');
    }
}
