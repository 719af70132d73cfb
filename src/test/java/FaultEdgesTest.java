/**
 * The places of each thing that is read: which characters may follow there, all others being a fault at that
 * place, and whether the text may end there, its end being the fault if not. So each count of the document (of
 * arguments, parts, parameters, cases, of how deep terms and codes lie) has its last that is taken and its first
 * that is refused.
 */
public final class FaultEdgesTest {
    private static final String V = "abcdefghijklmnopqrstuvwxyz";
    private static final String L = "ABCDEFGHIJKLMNOPQRSTUVWXYZ";
    private static final String D = "0123456789";
    private static final String TERM = V + D + L + "#";
    private static final String OPEN = TERM + "_";
    private static final String LEAF = V + D + L + "~";
    private static final String CODE = LEAF + "+-{[";
    private static final String PART = V + L + "#?";

    /** Whether the text may end there. */
    private static final boolean WHOLE = true;
    private static final boolean BEGUN = false;

    public static void main(String[] args) {
        aTermIs();
        argumentsAreOneToSix();
        termsLieEightDeep();
        aDeclarationIs();
        partsAreZeroToSix();
        aConditionIs();
        termsOfDeclarationsLieEightDeep();
        declarationsHaveNoHoles();
        aProgramIs();
        parametersOfProgramsAreOneToFour();
        codesAsArgumentsAreOneToSix();
        casesAreOneToFive();
        variablesOfPatternsAreOneToSix();
        aChoiceIs();
        codesLieTwelveDeep();
        termsOfRunsAreOneToSix();
        termsOfRunsLieEightDeep();
        termsOfRunsHaveNoHoles();
        noSpaces();
        theLastPlaceOfAFault();
        theLastPlaceOfAWrong();
        Report.finish();
    }

    private static int fault(int place) {
        return -1 - place;
    }

    private static int wrong(int place) {
        return ConditionedProofs.WRONG - place;
    }

    private static boolean isFault(int answer) {
        return answer < 0 && answer > ConditionedProofs.WRONG;
    }

    private static int read(String call, String text) {
        Talk t = new Talk();
        switch (call) {
            case "check":
                return t.check(text);
            case "declare":
                return t.declare('X', text);
            case "program":
                return t.program('X', text);
            default:
                return t.code('P', "a=a").run('P', text);
        }
    }

    private static void follow(String call, String begun, boolean whole, String allowed) {
        int place = begun.length();
        int alone = read(call, begun);
        String name = call + " of " + begun;
        Report.due(name + " (its end)", whole ? isFault(alone) ? 1 : 0 : alone, whole ? 0 : fault(place));
        for (char c = 32; c <= 126; c++) {
            int answer = read(call, begun + c);
            if (allowed.indexOf(c) < 0) {
                Report.due(name + c, answer, fault(place));
            } else {
                Report.due(name + c + " goes on", !isFault(answer) || answer == fault(place + 1) ? 1 : 0, 1);
            }
        }
    }

    /** Letters with brackets around it, so that what follows them lies one deeper than they are many. */
    private static String brackets(int many) {
        return "A(".repeat(many);
    }

    private static void aTermIs() {
        follow("check", "", BEGUN, OPEN);
        follow("check", "a", WHOLE, "");
        follow("check", "z", WHOLE, "");
        follow("check", "0", WHOLE, "");
        follow("check", "9", WHOLE, "");
        follow("check", "#", WHOLE, "");
        follow("check", "_", WHOLE, "");
        follow("check", "A", WHOLE, "(");
        follow("check", "Z", WHOLE, "(");
        follow("check", "A(#)", WHOLE, "");
    }

    private static void argumentsAreOneToSix() {
        follow("check", "A(", BEGUN, OPEN);
        follow("check", "A(1", BEGUN, OPEN + ")");
        follow("check", "A(_", BEGUN, OPEN + ")");
        follow("check", "A(12345", BEGUN, OPEN + ")");
        follow("check", "A(123456", BEGUN, ")");
        follow("check", "A(12345B", BEGUN, "()");
        follow("check", "A(12345B(x)", BEGUN, ")");
        follow("check", "A(B(123456", BEGUN, ")");
        follow("check", "A(B(123456)", BEGUN, OPEN + ")");
    }

    private static void termsLieEightDeep() {
        follow("check", brackets(6) + "A", BEGUN, OPEN + "()");
        follow("check", brackets(7), BEGUN, OPEN);
        follow("check", brackets(7) + "A", BEGUN, OPEN + ")");
        follow("check", brackets(7) + "1", BEGUN, OPEN + ")");
        follow("check", brackets(7) + "12345B", BEGUN, ")");
        follow("check", brackets(7) + "1))", BEGUN, OPEN + ")");
        follow("check", brackets(7) + "1))A", BEGUN, OPEN + "()");
        follow("check", brackets(7) + "A)))))))", WHOLE, "");
    }

    private static void aDeclarationIs() {
        follow("declare", "", BEGUN, PART + ">");
        follow("declare", ">", BEGUN, TERM + "*");
        follow("declare", ">*", WHOLE, "");
        follow("declare", ">x", WHOLE, "");
        follow("declare", ">1", WHOLE, "");
        follow("declare", ">#", WHOLE, "");
        follow("declare", ">A", WHOLE, "(");
        follow("declare", ">A(", BEGUN, TERM);
        follow("declare", ">A(123456", BEGUN, ")");
        follow("declare", ">A(1)", WHOLE, "");
        follow("declare", "a", BEGUN, ":");
        follow("declare", "z:", BEGUN, TERM);
        follow("declare", "x:y", BEGUN, ",>");
        follow("declare", "x:1", BEGUN, ",>");
        follow("declare", "x:#", BEGUN, ",>");
        follow("declare", "x:A", BEGUN, "(,>");
        follow("declare", "x:A(", BEGUN, TERM);
        follow("declare", "x:A(1", BEGUN, TERM + ")");
        follow("declare", "x:A(1)", BEGUN, ",>");
        follow("declare", "#", BEGUN, ",>");
        follow("declare", "A", BEGUN, "(,>");
        follow("declare", "A(", BEGUN, TERM);
        follow("declare", "A(12345", BEGUN, TERM + ")");
        follow("declare", "A(123456", BEGUN, ")");
        follow("declare", "A(1)", BEGUN, ",>");
    }

    private static void partsAreZeroToSix() {
        follow("declare", "#,", BEGUN, PART);
        follow("declare", "#,#,#,#,#", BEGUN, ",>");
        follow("declare", "#,#,#,#,#,", BEGUN, PART);
        follow("declare", "#,#,#,#,#,#", BEGUN, ">");
        follow("declare", "#,#,#,#,#,#>", BEGUN, TERM + "*");
        follow("declare", "#,#,#,#,#,x:A", BEGUN, "(>");
        follow("declare", "#,#,#,#,#,A(1)", BEGUN, ">");
        follow("declare", "a:#,b:#,c:#,d:#,e:#", BEGUN, ",>");
        follow("declare", "a:#,b:#,c:#,d:#,e:#,f:#", BEGUN, ">");
        follow("declare", "#,#,#,#,?F(1)=1", BEGUN, ",>");
        follow("declare", "#,#,#,#,#,?F(1)=1", BEGUN, ">");
        follow("declare", "?F(1)=1,?F(1)=1,?F(1)=1,?F(1)=1,?F(1)=1", BEGUN, ",>");
        follow("declare", "?F(1)=1,?F(1)=1,?F(1)=1,?F(1)=1,?F(1)=1,?F(1)=1", BEGUN, ">");
    }

    private static void aConditionIs() {
        follow("declare", "?", BEGUN, L);
        follow("declare", "?A", BEGUN, "(");
        follow("declare", "?Z(", BEGUN, TERM);
        follow("declare", "?F(1", BEGUN, TERM + ")");
        follow("declare", "?F(12345", BEGUN, TERM + ")");
        follow("declare", "?F(123456", BEGUN, ")");
        follow("declare", "?F(12345A", BEGUN, "()");
        follow("declare", "?F(1)", BEGUN, "=");
        follow("declare", "?F(1)=", BEGUN, TERM);
        follow("declare", "?F(1)=1", BEGUN, ",>");
        follow("declare", "?F(1)=A", BEGUN, "(,>");
        follow("declare", "?F(1)=A(123456", BEGUN, ")");
        follow("declare", "?F(1)=A(1)", BEGUN, ",>");
    }

    private static void termsOfDeclarationsLieEightDeep() {
        for (String before : new String[] {">", "x:", "", "?F(", "?F(1", "?F(1)="}) {
            follow("declare", before + brackets(6) + "A", BEGUN, TERM + "()");
            follow("declare", before + brackets(7), BEGUN, TERM);
            follow("declare", before + brackets(7) + "A", BEGUN, TERM + ")");
        }
    }

    private static void declarationsHaveNoHoles() {
        String[] begun = {"", ">", ">A(", ">A(1", "x:", "x:A(", "A(", "A(1", "?F(", "?F(1", "?F(A(", "?F(1)=", "?F(1)=A("};
        for (String text : begun) {
            Report.due("a hole behind " + text, read("declare", text + "_"), fault(text.length()));
        }
    }

    private static void aProgramIs() {
        follow("program", "", BEGUN, V);
        follow("program", "a=", BEGUN, CODE);
        follow("program", "a=a", WHOLE, "");
        follow("program", "a=z", WHOLE, "");
        follow("program", "a=0", WHOLE, "");
        follow("program", "a=9", WHOLE, "");
        follow("program", "a=~", WHOLE, "");
        follow("program", "a=A", WHOLE, "(");
        follow("program", "a=Z", WHOLE, "(");
        for (String sign : new String[] {"+", "-"}) {
            follow("program", "a=" + sign, BEGUN, CODE);
            follow("program", "a=" + sign + "1", BEGUN, CODE);
            follow("program", "a=" + sign + "A", BEGUN, CODE + "(");
            follow("program", "a=" + sign + "11", WHOLE, "");
            follow("program", "a=" + sign + "1A", WHOLE, "(");
        }
    }

    private static void parametersOfProgramsAreOneToFour() {
        follow("program", "a", BEGUN, V + "=");
        follow("program", "abc", BEGUN, V + "=");
        follow("program", "abcd", BEGUN, "=");
        follow("program", "abcd=", BEGUN, CODE);
    }

    private static void codesAsArgumentsAreOneToSix() {
        follow("program", "a=A(", BEGUN, CODE);
        follow("program", "a=A(1", BEGUN, CODE + ")");
        follow("program", "a=A(12345", BEGUN, CODE + ")");
        follow("program", "a=A(123456", BEGUN, ")");
        follow("program", "a=A(12345+1", BEGUN, CODE);
        follow("program", "a=A(12345+11", BEGUN, ")");
        follow("program", "a=A(1)", WHOLE, "");
    }

    private static void casesAreOneToFive() {
        follow("program", "a={", BEGUN, CODE);
        follow("program", "a={1", BEGUN, "|");
        follow("program", "a={A", BEGUN, "(|");
        follow("program", "a={1|", BEGUN, D + L + "_");
        follow("program", "a={1|0", BEGUN, ">");
        follow("program", "a={1|9", BEGUN, ">");
        follow("program", "a={1|_", BEGUN, ">");
        follow("program", "a={1|1>", BEGUN, CODE);
        follow("program", "a={1|1>1", BEGUN, "|}");
        follow("program", "a={1|1>1}", WHOLE, "");
        follow("program", "a={1|1>1|", BEGUN, D + L + "_");
        follow("program", "a={1" + "|1>1".repeat(4), BEGUN, "|}");
        follow("program", "a={1" + "|1>1".repeat(4) + "|", BEGUN, D + L + "_");
        follow("program", "a={1" + "|1>1".repeat(5), BEGUN, "}");
        follow("program", "a={1" + "|1>1".repeat(4) + "|_>A", BEGUN, "(}");
        follow("program", "a={1" + "|1>1".repeat(5) + "}", WHOLE, "");
    }

    private static void variablesOfPatternsAreOneToSix() {
        follow("program", "a={1|A", BEGUN, "(>");
        follow("program", "a={1|Z(", BEGUN, V);
        follow("program", "a={1|A(a", BEGUN, V + ")");
        follow("program", "a={1|A(abcde", BEGUN, V + ")");
        follow("program", "a={1|A(abcdef", BEGUN, ")");
        follow("program", "a={1|A(z)", BEGUN, ">");
    }

    private static void aChoiceIs() {
        follow("program", "a=[", BEGUN, CODE);
        follow("program", "a=[1", BEGUN, "=<");
        follow("program", "a=[A", BEGUN, "(=<");
        for (String sign : new String[] {"=", "<"}) {
            String begun = "a=[1" + sign;
            follow("program", begun, BEGUN, CODE);
            follow("program", begun + "1", BEGUN, "?");
            follow("program", begun + "1?", BEGUN, CODE);
            follow("program", begun + "1?1", BEGUN, ":");
            follow("program", begun + "1?1:", BEGUN, CODE);
            follow("program", begun + "1?1:1", BEGUN, "]");
            follow("program", begun + "1?1:1]", WHOLE, "");
        }
    }

    private static void codesLieTwelveDeep() {
        for (String opening : new String[] {"+", "-", "{", "[", "A("}) {
            follow("program", "a=" + opening.repeat(10), BEGUN, CODE);
            follow("program", "a=" + opening.repeat(11), BEGUN, LEAF);
        }
        String ten = "a=" + "+".repeat(9);
        String eleven = "a=" + "+".repeat(10);
        for (String inside : new String[] {"+1", "-1", "{1|_>", "{1|1>1|_>", "{1|A(x)>", "[1=", "[1<", "[1=1?", "[1=1?1:"}) {
            follow("program", ten + inside, BEGUN, CODE);
            follow("program", eleven + inside, BEGUN, LEAF);
        }
        follow("program", ten + "A(1", BEGUN, CODE + ")");
        follow("program", eleven + "A(1", BEGUN, LEAF + ")");
        follow("program", ten + "+A", BEGUN, CODE + "(");
        follow("program", eleven + "+A", BEGUN, LEAF);
        follow("program", eleven + "A(A", BEGUN, LEAF + ")");
        follow("program", eleven + "{A", BEGUN, "|");
        follow("program", eleven + "{1|A", BEGUN, "(>");
        follow("program", eleven + "[A", BEGUN, "=<");
        follow("program", "a=" + "+".repeat(11) + "1".repeat(12), WHOLE, "");
    }

    private static void termsOfRunsAreOneToSix() {
        follow("run", "", BEGUN, TERM);
        follow("run", "1", WHOLE, TERM);
        follow("run", "A", WHOLE, TERM + "(");
        follow("run", "A(", BEGUN, TERM);
        follow("run", "A(12345", BEGUN, TERM + ")");
        follow("run", "A(123456", BEGUN, ")");
        follow("run", "A(1)", WHOLE, TERM);
        follow("run", "12345", WHOLE, TERM);
        follow("run", "123456", WHOLE, "");
        follow("run", "12345A", WHOLE, "(");
        follow("run", "12345A(1)", WHOLE, "");
    }

    private static void termsOfRunsLieEightDeep() {
        for (String before : new String[] {"", "1", "A(1)"}) {
            follow("run", before + brackets(6) + "A", BEGUN, TERM + "()");
            follow("run", before + brackets(7), BEGUN, TERM);
            follow("run", before + brackets(7) + "A", BEGUN, TERM + ")");
        }
    }

    private static void termsOfRunsHaveNoHoles() {
        for (String text : new String[] {"", "1", "A(", "A(1", "A(B("}) {
            Report.due("a hole behind " + text, read("run", text + "_"), fault(text.length()));
        }
    }

    private static void noSpaces() {
        String[][] texts = {{"check", "1"}, {"check", "A(12)"}, {"declare", "x:#,#,?F(1)=1>A(1)"}, {"declare", ">*"},
            {"program", "ab={[+ab<1?A(1):~]|A(x)>1}"}, {"run", "1A(2)"}};
        for (String[] row : texts) {
            for (int place = 0; place <= row[1].length(); place++) {
                String spaced = row[1].substring(0, place) + " " + row[1].substring(place);
                Report.due(row[0] + " of " + spaced, read(row[0], spaced), fault(place));
            }
        }
    }

    private static void theLastPlaceOfAFault() {
        String term = Worlds.number(80);
        Report.due("a term of 80 characters", Worlds.numbers().check(term), 1);
        Report.due("79 of them", Worlds.numbers().check(term.substring(0, 79)), fault(79));
        Report.due("another one as the last", Worlds.numbers().check(term.substring(0, 79) + ">"), fault(79));
        Report.due("80 of 81", Worlds.numbers().check(Worlds.number(81).substring(0, 80)), fault(80));
        Report.due("a run with 80", Worlds.numbers().run('P', term), 80);
        Report.due("a run with 80 of 81", Worlds.numbers().run('P', Worlds.number(81).substring(0, 80)), fault(80));
        String declaration = ">S(" + Worlds.number(76) + ")";
        Report.due("a declaration of 80", Worlds.numbers().declare('X', declaration), 0);
        Report.due("79 of it", Worlds.numbers().declare('X', declaration.substring(0, 79)), fault(79));
        Report.due("80 of 81", Worlds.numbers().declare('X', ">S(" + Worlds.number(77)), fault(80));
        String program = "a=U(" + Worlds.number(75) + ")";
        Report.due("a program of 80", Worlds.numbers().program('X', program), 1);
        Report.due("79 of it", Worlds.numbers().program('X', program.substring(0, 79)), fault(79));
        Report.due("80 of 81", Worlds.numbers().program('X', "a=U(" + Worlds.number(76)), fault(80));
    }

    private static void theLastPlaceOfAWrong() {
        Report.due("a declaration's", Worlds.numbers().declare('X', "S(" + Worlds.number(75) + ")>x"), wrong(79));
        Report.due("a program's", Worlds.numbers().program('X', "a=+" + Worlds.number(76) + "x"), wrong(79));
        Report.due("a run's", Worlds.numbers().code('Q', "ab=a").run('Q', Worlds.number(79) + "x"), wrong(79));
        String term = "K(1111" + Worlds.number(72) + "x)";
        Report.due("a check's", Worlds.numbers().check(term), wrong(78));
        Report.due("the first place of all", Worlds.numbers().check("x"), wrong(0));
    }
}
