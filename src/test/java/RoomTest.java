import java.lang.management.ManagementFactory;

/**
 * The dearest runs of calls take far less than the room that all calls of a run have together, some 600,000
 * objects and 7.3 million fields and elements; here bytes are counted, of which each takes more than four.
 */
public final class RoomTest {
    private static final int CALLS = 512;
    private static final long MOST_BYTES = 2_000_000;

    private static int calls;

    public static void main(String[] args) {
        warmUp();
        long before = allocated();
        int steps = manyConditions();
        Report.due("many conditions stay small", allocated() - before < MOST_BYTES ? 1 : 0, 1);
        Report.due("many conditions make many steps", steps > 20_000 ? 1 : 0, 1);
        System.out.println("many conditions: " + (allocated() - before) + " bytes, " + steps + " steps in one call");
        before = allocated();
        longLemmas();
        Report.due("long lemmas stay small", allocated() - before < MOST_BYTES ? 1 : 0, 1);
        System.out.println("long lemmas: " + (allocated() - before) + " bytes");
        before = allocated();
        ConditionedProofs[] kept = new ConditionedProofs[100];
        for (int i = 0; i < kept.length; i++) {
            kept[i] = new ConditionedProofs();
        }
        long each = (allocated() - before) / kept.length;
        Report.due("a new object is small", each < 12_000 ? 1 : 0, 1);
        System.out.println("a new object: " + each + " bytes");
        Report.due("they are used", kept[99].length(), 0);
        Report.finish();
    }

    /** The first calls load classes, which is no part of the program's room. */
    private static void warmUp() {
        allocated();
        manyConditions();
        longLemmas();
    }

    private static long allocated() {
        com.sun.management.ThreadMXBean threads =
                (com.sun.management.ThreadMXBean) ManagementFactory.getThreadMXBean();
        return threads.getThreadAllocatedBytes(Thread.currentThread().getId());
    }

    private static int manyConditions() {
        calls = 0;
        ConditionedProofs it = new ConditionedProofs();
        declare(it, 'T', ">*");
        declare(it, 'E', ">T");
        declare(it, 'K', "T,T,T,T,T,T>T");
        program(it, 'P', "a=K(EEEEEE)");
        program(it, 'G', "a=K(P(a)P(a)P(a)P(a)P(a)P(a))");
        program(it, 'R', "a={K(G(a)P(a)P(a)P(a)P(a)E)|_>1}");
        declare(it, 'A', "?R(1)=1,?R(1)=1,?R(1)=1,?R(1)=1,?R(1)=1,?R(1)=1>T");
        String row = "K(AAAAAA)";
        String text = "K(" + row + row + row + row + row + row + ")";
        int steps = 0;
        while (calls + text.length() < CALLS) {
            type(it, text);
            calls++;
            Report.due("a check with many conditions", it.check(), 1);
            steps = it.steps();
        }
        return steps;
    }

    private static void longLemmas() {
        calls = 0;
        ConditionedProofs it = new ConditionedProofs();
        declare(it, 'T', ">*");
        declare(it, 'U', "T>T");
        declare(it, 'E', ">T");
        declare(it, 'D', "T,T>T");
        declare(it, 'F', "T>*");
        program(it, 'Q', "a=D(aa)");
        program(it, 'B', "a=Q(Q(U(Q(U(Q(a))))))");
        declare(it, 'I', "a:T,?B(E)=a>F(a)");
        type(it, "I(_)");
        it.check();
        it.lemma('L');
        calls += 2;
        while (calls + 2 <= CALLS) {
            type(it, "L");
            calls++;
            Report.due("a long lemma", it.check(), 100);
        }
    }

    private static void type(ConditionedProofs it, String text) {
        for (int i = 0; i < text.length(); i++) {
            it.type(text.charAt(i));
            calls++;
        }
    }

    private static void declare(ConditionedProofs it, char letter, String text) {
        type(it, text);
        calls++;
        it.declare(letter);
    }

    private static void program(ConditionedProofs it, char letter, String text) {
        type(it, text);
        calls++;
        it.program(letter);
    }
}
