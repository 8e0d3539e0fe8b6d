import java.lang.reflect.Constructor;
import java.lang.reflect.Field;
import java.lang.reflect.Method;
import java.lang.reflect.Modifier;
import java.util.Arrays;
import java.util.HashSet;
import java.util.Set;
import java.util.TreeSet;

/** The public face is the document's and nothing else; rule 1 of the language. */
public final class FaceTest {
    private static final String[] FACE = {
        "void feed(int,int,int,int,int)", "int end(int)", "void wipe()", "int read()", "int fault(int)", "int variable(int,int)",
        "int row(int,int,int)", "int goal(int,int,boolean)", "int write()", "boolean solve(boolean)", "int value(int)", "int best(int)",
        "int way(int)", "int count()", "int counted(int,int)", "int prove()", "int need(int,int)", "int multiplier(int)",
        "int letter(int)", "int about(int)", "int holder(int)", "int rule(int,int,int,int)", "boolean pair(int,int)", "int left(int)",
        "int listing()", "int listed(int,int)", "int reason(int,int)", "void clear()", "int clause(int,int,int)", "boolean unsay()",
        "int truth(int)", "int arc(int,int,int,int)", "boolean unarc()", "int greatest(int,int)", "int cut(int,int)",
        "int cheapest(int,int,int)", "int path(int,int,int)", "long tree()", "int tour(int,int)"};

    public static void main(String[] args) {
        Checks c = new Checks("FaceTest");
        Class<?> face = OptimaWorks.class;
        c.same("public final", Modifier.toString(face.getModifiers()), "public final");
        Set<String> found = new TreeSet<>();
        Set<String> names = new HashSet<>();
        for (Method m : face.getDeclaredMethods()) {
            if (Modifier.isPublic(m.getModifiers())) {
                found.add(told(m));
                names.add(m.getName());
            }
            c.same("public or private: " + m, Modifier.isPublic(m.getModifiers()) || Modifier.isPrivate(m.getModifiers()), true);
        }
        c.same("methods", found.toString(), new TreeSet<>(Arrays.asList(FACE)).toString());
        for (Constructor<?> made : face.getDeclaredConstructors()) {
            c.same("constructor " + made, made.toString(), "public OptimaWorks()");
        }
        for (Field f : face.getDeclaredFields()) {
            c.same("field " + f, Modifier.isPrivate(f.getModifiers()) || f.getName().equals("NONE"), true);
        }
        for (Method m : face.getDeclaredMethods()) {
            c.same("private, but named as a public one: " + m, !Modifier.isPublic(m.getModifiers()) && names.contains(m.getName()), false);
        }
        for (Class<?> inside : face.getDeclaredClasses()) {
            c.same("static and hidden: " + inside, Modifier.isStatic(inside.getModifiers()) && !Modifier.isPublic(inside.getModifiers()), true);
            for (Method m : inside.getDeclaredMethods()) {
                c.same("named as a public one: " + m, names.contains(m.getName()), false);
            }
        }
        c.finish();
    }

    private static String told(Method m) {
        StringBuilder text = new StringBuilder(m.getReturnType().getName()).append(' ').append(m.getName()).append('(');
        Class<?>[] kinds = m.getParameterTypes();
        for (int i = 0; i < kinds.length; i++) {
            text.append(i == 0 ? "" : ",").append(kinds[i].getName());
        }
        return text.append(')').toString();
    }
}
