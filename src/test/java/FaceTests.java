import java.lang.reflect.Constructor;
import java.lang.reflect.Field;
import java.lang.reflect.Member;
import java.lang.reflect.Method;
import java.lang.reflect.Modifier;
import java.util.Set;
import java.util.TreeSet;

/** The face of the class: exactly the members of the document, with their exceptions. */
public final class FaceTests {
    private static final String[] FACE = {
        "static final int SYNTAX_ERROR = -2", "static final int OUT_OF_RANGE = -3", "static final int UNKNOWN = -4",
        "static final int DUPLICATE = -5", "static final int TOO_MANY = -6", "static final int TOO_DEEP = -7",
        "LinkElection()", "int append(int int int int int )", "int load(int ) IllegalArgumentException",
        "int errorOffset()", "int libraries()", "int names()", "int share()",
        "int library(int int ) IndexOutOfBoundsException IllegalArgumentException",
        "int offer(int int ) IndexOutOfBoundsException", "int candidates(int ) IndexOutOfBoundsException",
        "int vote(int int ) IndexOutOfBoundsException", "int support(int int ) IndexOutOfBoundsException",
        "int winner(int ) IndexOutOfBoundsException", "int margin(int ) IndexOutOfBoundsException",
        "int binding(int int ) IndexOutOfBoundsException", "int minority(int ) IndexOutOfBoundsException",
        "int call(int int ) IndexOutOfBoundsException", "int steps(int int ) IndexOutOfBoundsException",
        "int users(int int ) IndexOutOfBoundsException",
        "int unload(int ) IndexOutOfBoundsException IllegalStateException",
        "int reload(int ) IndexOutOfBoundsException IllegalStateException",
        "int offerValue(int int int ) IndexOutOfBoundsException IllegalArgumentException",
        "int offerForward(int int int ) IndexOutOfBoundsException",
        "int withdraw(int int ) IndexOutOfBoundsException IllegalStateException",
        "int setTrust(int int ) IndexOutOfBoundsException IllegalArgumentException",
        "int setKeeps(int boolean ) IndexOutOfBoundsException", "int setShare(int ) IllegalArgumentException",
        "int undo()", "long checksum()",
    };

    public static void main(String[] args) throws Exception {
        Set<String> due = new TreeSet<>(Set.of(FACE));
        Set<String> got = new TreeSet<>();
        for (Field field : LinkElection.class.getDeclaredFields()) {
            if (isOpen(field)) {
                got.add("static final int " + field.getName() + " = " + field.getInt(null));
            }
        }
        for (Constructor<?> made : LinkElection.class.getDeclaredConstructors()) {
            if (isOpen(made)) {
                got.add("LinkElection" + types(made.getParameterTypes(), made.getExceptionTypes()));
            }
        }
        for (Method method : LinkElection.class.getDeclaredMethods()) {
            if (isOpen(method)) {
                got.add(method.getReturnType() + " " + method.getName()
                    + types(method.getParameterTypes(), method.getExceptionTypes()));
            }
        }
        Kit.dueText("the face", got.toString(), due.toString());
        int modifiers = LinkElection.class.getModifiers();
        Kit.due("public and final", Modifier.isPublic(modifiers) && Modifier.isFinal(modifiers) ? 1 : 0, 1);
        for (Class<?> inside : LinkElection.class.getDeclaredClasses()) {
            Kit.due(inside.getName() + " is static and not public",
                Modifier.isStatic(inside.getModifiers()) && !Modifier.isPublic(inside.getModifiers()) ? 1 : 0, 1);
        }
        Kit.end("FaceTests");
    }

    private static boolean isOpen(Member member) {
        return !Modifier.isPrivate(member.getModifiers()) && !member.isSynthetic();
    }

    private static String types(Class<?>[] parameters, Class<?>[] exceptions) {
        StringBuilder text = new StringBuilder("(");
        for (Class<?> type : parameters) {
            text.append(type.getSimpleName()).append(' ');
        }
        text.append(')');
        for (Class<?> type : exceptions) {
            text.append(' ').append(type.getSimpleName());
        }
        return text.toString();
    }
}
