import java.lang.reflect.Constructor;
import java.lang.reflect.Field;
import java.lang.reflect.Method;
import java.lang.reflect.Modifier;
import java.util.Arrays;
import java.util.Set;
import java.util.TreeSet;

/** The class shows the document's face and nothing else, with the exceptions that are declared there. */
public final class FaceTests {
    private static final String INDEX = " throws IndexOutOfBoundsException";
    private static final String ARGUMENT = " throws IllegalArgumentException";

    private static int wrong = 0;

    public static void main(String[] args) throws Exception {
        Set<String> due = new TreeSet<>(Arrays.asList(
            "boolean prepare(int)" + INDEX, "boolean refuse(int)" + INDEX, "boolean resend(int)" + INDEX,
            "boolean question(int)" + INDEX, "int begin(int)" + INDEX, "int deliver(int)" + INDEX,
            "void drop(int)" + INDEX, "int copy(int)" + INDEX, "int calm(int)" + ARGUMENT,
            "boolean crash(int,int)" + ARGUMENT + INDEX, "boolean recover(int,int)" + ARGUMENT + INDEX,
            "int message(int,int)" + INDEX, "int told(int,int,boolean)" + INDEX, "int manager(int,int)" + INDEX,
            "int acceptor(int,int,int)" + INDEX, "int leader(int,int)" + INDEX, "int outcome(int,int)" + INDEX,
            "int seen(int,int,int)" + INDEX, "int chosen(int)" + INDEX, "int count(int)", "int astray()"));
        Set<String> shown = new TreeSet<>();
        Set<String> publicNames = new TreeSet<>();
        for (Method m : CommitCouncil.class.getDeclaredMethods()) {
            if (Modifier.isPublic(m.getModifiers())) {
                publicNames.add(m.getName());
            }
            if (!Modifier.isPrivate(m.getModifiers()) && !m.isSynthetic()) {
                shown.add(signatureOf(m));
            }
        }
        check(shown.equals(due), "methods are " + shown);
        for (Method m : CommitCouncil.class.getDeclaredMethods()) {
            boolean hidden = Modifier.isPrivate(m.getModifiers());
            check(!hidden || !publicNames.contains(m.getName()), "a private method is called " + m.getName());
        }
        int fields = 0;
        for (Field f : CommitCouncil.class.getDeclaredFields()) {
            if (!Modifier.isPrivate(f.getModifiers())) {
                fields++;
                check(f.getName().equals("NONE") && f.getModifiers() == (Modifier.PUBLIC | Modifier.STATIC | Modifier.FINAL),
                    "a field that is not of the face: " + f);
            }
            boolean mutableStatic = Modifier.isStatic(f.getModifiers()) && !Modifier.isFinal(f.getModifiers());
            check(!mutableStatic, "a static field that is not final: " + f);
        }
        check(fields == 1, "NONE is the one constant");
        Constructor<?>[] made = CommitCouncil.class.getDeclaredConstructors();
        check(made.length == 1 && Modifier.isPublic(made[0].getModifiers())
            && Arrays.equals(made[0].getParameterTypes(), new Class<?>[] {int.class, int.class}), "one constructor (int, int)");
        int kind = CommitCouncil.class.getModifiers();
        check(Modifier.isPublic(kind) && Modifier.isFinal(kind), "public and final");
        for (Class<?> inner : CommitCouncil.class.getDeclaredClasses()) {
            check(Modifier.isStatic(inner.getModifiers()) && !Modifier.isPublic(inner.getModifiers())
                && !Modifier.isProtected(inner.getModifiers()), "inner class " + inner.getName());
        }
        System.out.println(wrong == 0 ? "the face is as due" : wrong + " faults");
        if (wrong != 0) {
            System.exit(1);
        }
    }

    private static String signatureOf(Method m) {
        StringBuilder text = new StringBuilder();
        text.append(m.getReturnType().getSimpleName()).append(' ').append(m.getName()).append('(');
        for (int k = 0; k < m.getParameterCount(); k++) {
            text.append(k == 0 ? "" : ",").append(m.getParameterTypes()[k].getSimpleName());
        }
        text.append(')');
        for (Class<?> e : m.getExceptionTypes()) {
            text.append(" throws ").append(e.getSimpleName());
        }
        return text.toString();
    }

    private static void check(boolean holds, String what) {
        if (!holds) {
            wrong++;
            System.out.println("wrong: " + what);
        }
    }
}
