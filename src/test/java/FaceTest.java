import java.lang.reflect.Constructor;
import java.lang.reflect.Field;
import java.lang.reflect.Member;
import java.lang.reflect.Method;
import java.lang.reflect.Modifier;
import java.util.Set;
import java.util.TreeSet;

/** The class has the document's face, and nothing else of it can be seen. */
public final class FaceTest {
    private static final String IOOBE = " throws IndexOutOfBoundsException";
    private static final String IAE = " throws IllegalArgumentException";
    private static final String NOT_NOW = IOOBE + " IllegalStateException";

    public static void main(String[] args) {
        Set<String> want = new TreeSet<>(Set.of(
            "int feed(int, int, int, int, int) throws UnsupportedOperationException",
            "void end(int)" + IAE, "int load(int)" + IOOBE + " UnsupportedOperationException",
            "int fault()", "int tick()", "int run(int)" + IAE, "int quantum(int)" + IAE,
            "boolean kill(int)" + IOOBE, "int reap(int)" + NOT_NOW, "boolean key(int, int)" + NOT_NOW,
            "boolean post(int, int)" + NOT_NOW, "int state(int, int)" + IOOBE, "int stack(int, int)" + IOOBE,
            "int message(int, int, boolean)" + IOOBE, "int ready(int, int)" + IOOBE, "int cell(int)" + IOOBE,
            "int block(int, int)" + IOOBE, "int semaphore(int, int)" + IOOBE, "int out(int)" + IOOBE,
            "int count(int)" + IOOBE));
        Class<?> face = ShareMonitor.class;
        Set<String> got = new TreeSet<>();
        for (Method method : face.getDeclaredMethods()) {
            if (!isHidden(method)) {
                got.add(tell(method));
            }
        }
        Check.text("the methods", got.toString(), want.toString());
        for (Field field : face.getDeclaredFields()) {
            Check.yes("hidden or NONE: " + field.getName(), isHidden(field) || field.getName().equals("NONE"));
        }
        Check.same("NONE", ShareMonitor.NONE, -1);
        Check.same("the constructors", face.getDeclaredConstructors().length, 1);
        for (Constructor<?> constructor : face.getDeclaredConstructors()) {
            Check.same("the constructor's parameters", constructor.getParameterCount(), 0);
            Check.yes("the constructor is public", Modifier.isPublic(constructor.getModifiers()));
        }
        Check.yes("the class is public and final",
            Modifier.isPublic(face.getModifiers()) && Modifier.isFinal(face.getModifiers()));
        Check.close("FaceTest");
    }

    private static boolean isHidden(Member member) {
        return member.isSynthetic() || Modifier.isPrivate(member.getModifiers());
    }

    private static String tell(Method method) {
        StringBuilder text = new StringBuilder(method.getReturnType().getName());
        text.append(' ').append(method.getName()).append('(');
        String between = "";
        for (Class<?> type : method.getParameterTypes()) {
            text.append(between).append(type.getName());
            between = ", ";
        }
        text.append(')');
        between = " throws ";
        for (Class<?> type : method.getExceptionTypes()) {
            text.append(between).append(type.getSimpleName());
            between = " ";
        }
        return text.toString();
    }
}
