import java.lang.reflect.Constructor;
import java.lang.reflect.Field;
import java.lang.reflect.Method;
import java.lang.reflect.Modifier;
import java.util.Set;
import java.util.TreeSet;

/** The class has the document's members, and no other one can be seen. */
public final class FaceTest {
    private static final String[] FACE = {
        "public static final int NONE", "public static final int WRONG", "public static final int LONG",
        "public static final int FAILED", "public ConditionedProofs()", "public boolean type(char)", "public int wipe()",
        "public int declare(char) throws IllegalArgumentException IllegalStateException",
        "public int program(char) throws IllegalArgumentException IllegalStateException", "public int check()",
        "public void lemma(char) throws IllegalArgumentException IllegalStateException",
        "public char retract() throws IllegalStateException", "public int run(char) throws IllegalArgumentException",
        "public int steps()", "public int kind(char)", "public int parameters(char)", "public int length()",
        "public char charAt(int)"};

    public static void main(String[] args) {
        Set<String> due = new TreeSet<>(java.util.Arrays.asList(FACE));
        Report.due("the face", seen().toString(), due.toString());
        Report.due("the class", Modifier.toString(ConditionedProofs.class.getModifiers()), "public final");
        for (Class<?> inside : ConditionedProofs.class.getDeclaredClasses()) {
            int modifiers = inside.getModifiers();
            Report.due(inside + " is static", Modifier.isStatic(modifiers) ? 1 : 0, 1);
            Report.due(inside + " is hidden", Modifier.isPublic(modifiers) || Modifier.isProtected(modifiers) ? 1 : 0, 0);
        }
        Report.finish();
    }

    private static Set<String> seen() {
        Set<String> seen = new TreeSet<>();
        for (Field field : ConditionedProofs.class.getDeclaredFields()) {
            if (!Modifier.isPrivate(field.getModifiers())) {
                seen.add(Modifier.toString(field.getModifiers()) + " " + field.getType() + " " + field.getName());
            }
        }
        for (Constructor<?> made : ConditionedProofs.class.getDeclaredConstructors()) {
            if (!Modifier.isPrivate(made.getModifiers())) {
                seen.add(Modifier.toString(made.getModifiers()) + " ConditionedProofs()"
                        + (made.getParameterCount() == 0 ? "" : " with parameters"));
            }
        }
        for (Method method : ConditionedProofs.class.getDeclaredMethods()) {
            if (!Modifier.isPrivate(method.getModifiers()) && !method.isSynthetic()) {
                seen.add(describe(method));
            }
        }
        return seen;
    }

    private static String describe(Method method) {
        StringBuilder text = new StringBuilder(Modifier.toString(method.getModifiers()));
        text.append(' ').append(method.getReturnType()).append(' ').append(method.getName()).append('(');
        for (Class<?> parameter : method.getParameterTypes()) {
            text.append(parameter);
        }
        text.append(')');
        String between = " throws ";
        for (Class<?> thrown : method.getExceptionTypes()) {
            text.append(between).append(thrown.getSimpleName());
            between = " ";
        }
        return text.toString();
    }
}
