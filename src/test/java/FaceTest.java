import java.io.IOException;
import java.lang.reflect.Constructor;
import java.lang.reflect.Field;
import java.lang.reflect.Method;
import java.lang.reflect.Modifier;
import java.nio.file.Files;
import java.nio.file.Path;
import java.util.HashSet;
import java.util.Set;
import java.util.TreeSet;
import java.util.regex.Matcher;
import java.util.regex.Pattern;

/** The public face is the document's and nothing else; rule 1 of the language. Run from the project's folder. */
public final class FaceTest {
    private static final Pattern BLOCK = Pattern.compile("(?s)## The public face\\s+```java\n(.*?)```");
    private static final Pattern METHOD = Pattern.compile("public (\\w+ \\w+)\\(([^)]*)\\)(?: throws ([^;]*))?;");
    private static final int METHODS = 39;

    public static void main(String[] args) throws IOException {
        Checks c = new Checks("FaceTest");
        Class<?> face = OptimaWorks.class;
        c.same("public final", Modifier.toString(face.getModifiers()), "public final");
        Set<String> found = new TreeSet<>();
        Set<String> names = new HashSet<>();
        for (Method m : face.getDeclaredMethods()) {
            if (Modifier.isPublic(m.getModifiers())) {
                found.add(told(m));
                names.add(m.getName());
            }
            c.same("public or private: " + m, Modifier.isPublic(m.getModifiers()) || Modifier.isPrivate(m.getModifiers()), true);
        }
        Set<String> due = documentsMethods();
        c.same("methods of the document", due.size(), METHODS);
        c.same("methods", found.toString(), due.toString());
        for (Constructor<?> made : face.getDeclaredConstructors()) {
            c.same("constructor " + made, made.toString(), "public OptimaWorks()");
        }
        for (Field f : face.getDeclaredFields()) {
            c.same("field " + f, Modifier.isPrivate(f.getModifiers()) || f.getName().equals("NONE"), true);
        }
        c.same("NONE", OptimaWorks.NONE, -1);
        for (Method m : face.getDeclaredMethods()) {
            c.same("private, but named as a public one: " + m, !Modifier.isPublic(m.getModifiers()) && names.contains(m.getName()), false);
        }
        for (Class<?> inside : face.getDeclaredClasses()) {
            c.same("static and hidden: " + inside, Modifier.isStatic(inside.getModifiers()) && !Modifier.isPublic(inside.getModifiers()), true);
            for (Method m : inside.getDeclaredMethods()) {
                c.same("named as a public one: " + m, names.contains(m.getName()), false);
            }
        }
        c.finish();
    }

    /** As told() writes them: the kind of the answer, the name, the kinds of the parameters, what is thrown. */
    private static Set<String> documentsMethods() throws IOException {
        Set<String> due = new TreeSet<>();
        Matcher block = BLOCK.matcher(Files.readString(Path.of("../shared/DOC.md")));
        Matcher method = METHOD.matcher(block.find() ? block.group(1) : "");
        while (method.find()) {
            String kinds = method.group(2).replaceAll(" \\w+(, |$)", "$1");
            due.add(method.group(1) + "(" + kinds + ")" + (method.group(3) == null ? "" : " throws " + method.group(3)));
        }
        return due;
    }

    private static String told(Method m) {
        StringBuilder text = new StringBuilder(m.getReturnType().getName()).append(' ').append(m.getName());
        text.append('(').append(listed(m.getParameterTypes())).append(')');
        return text.append(m.getExceptionTypes().length == 0 ? "" : " throws ").append(listed(m.getExceptionTypes())).toString();
    }

    private static String listed(Class<?>[] kinds) {
        StringBuilder text = new StringBuilder();
        for (Class<?> kind : kinds) {
            text.append(text.length() == 0 ? "" : ", ").append(kind.getSimpleName());
        }
        return text.toString();
    }
}
