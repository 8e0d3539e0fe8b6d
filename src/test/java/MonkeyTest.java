import java.lang.reflect.InvocationTargetException;
import java.lang.reflect.Method;
import java.lang.reflect.Modifier;
import java.util.ArrayList;
import java.util.Arrays;
import java.util.Comparator;
import java.util.List;
import java.util.Random;

/**
 * Runs of 512 calls at random: none throws but what the face tells, and the same calls on another
 * object give the same answers.
 */
public final class MonkeyTest {
    private static final Checks C = new Checks("MonkeyTest");
    private static final int[] EDGES = {Integer.MIN_VALUE, Integer.MAX_VALUE, -1000, -201, -16, -4, -3, -2, -1, 0, 1, 2, 3, 4, 5, 7, 8, 9, 10, 11,
        12, 15, 16, 20, 21, 63, 200, 255, 999, 1000, 4095, 4096, 65535, 65536};
    private static final String[] PIECES = {"set a=1..3;", "set b=0..1;", "param p[a]=1,2,3;", "param q=1/2;", "var x[a]whole from 0 to 2;",
        "var y from -5 to 5;", "var z[b]from 0 to 9;", "row r[i in a]:p[i]*x[i]+y<=4;", "row s:y>=1 or y<=-1;", "row t[i in b]:z[i]>=q*y;",
        "different x;", "max y+z[0];", "min sum{i in a}(x[i]/i);", "row u:y=7;", "?", "row v:1/0<=1;", "min x[4];", "var w whole from 0 to 99;"};

    public static void main(String[] args) throws IllegalAccessException {
        List<Method> methods = new ArrayList<>();
        for (Method m : OptimaWorks.class.getDeclaredMethods()) {
            if (Modifier.isPublic(m.getModifiers())) {
                methods.add(m);
            }
        }
        methods.sort(Comparator.comparing(Method::getName));
        for (int seed = 0; seed < 60; seed++) {
            List<Object> once = run(methods, new Random(seed));
            List<Object> again = run(methods, new Random(seed));
            C.same("run " + seed + " twice", once.equals(again), true);
        }
        C.finish();
    }

    private static List<Object> run(List<Method> methods, Random random) throws IllegalAccessException {
        OptimaWorks x = new OptimaWorks();
        List<Object> answers = new ArrayList<>();
        for (int i = 0; i < 512; i++) {
            int choice = random.nextInt(12);
            if (choice == 0) {
                Checks.tell(x, PIECES[random.nextInt(PIECES.length)]);
            } else if (choice == 1) {
                x.wipe();
                for (int k = 0; k < 14; k++) {
                    if (random.nextInt(4) != 0) {
                        Checks.tell(x, PIECES[k]);
                    }
                }
            } else {
                Method m = methods.get(random.nextInt(methods.size()));
                answers.add(call(x, m, random));
            }
        }
        return answers;
    }

    private static Object call(OptimaWorks x, Method m, Random random) throws IllegalAccessException {
        Object[] arguments = new Object[m.getParameterCount()];
        for (int k = 0; k < arguments.length; k++) {
            int number = random.nextInt(3) == 0 ? EDGES[random.nextInt(EDGES.length)] : random.nextInt(12);
            arguments[k] = m.getParameterTypes()[k] == boolean.class ? (Object) (number % 2 == 0) : (Object) number;
        }
        try {
            return String.valueOf(m.invoke(x, arguments));
        } catch (InvocationTargetException thrown) {
            Class<?> kind = thrown.getCause().getClass();
            boolean told = Arrays.asList(m.getExceptionTypes()).contains(kind);
            C.same(m.getName() + Arrays.toString(arguments) + " threw " + thrown.getCause(), told, true);
            return kind.getName();
        }
    }
}
