import java.lang.reflect.Constructor;
import java.lang.reflect.Field;
import java.lang.reflect.InvocationTargetException;
import java.lang.reflect.Method;
import java.math.BigInteger;
import java.util.Random;

/**
 * The class's own great numbers against the library's. Answers are exact just if these are, and what
 * is rare in a division (a guess that is too great) hardly comes up in a model.
 */
public final class WholeTest {
    private static final Checks C = new Checks("WholeTest");
    private static final int BITS = 30;
    private static final long MASK = (1L << BITS) - 1;
    private static Class<?> kind;

    public static void main(String[] args) throws ReflectiveOperationException {
        kind = Class.forName("OptimaWorks$Whole");
        Random random = new Random(20261116);
        for (int i = 0; i < 20000; i++) {
            BigInteger a = made(random, 1 + random.nextInt(9));
            BigInteger b = made(random, 1 + random.nextInt(4));
            sums(a, b);
            quotients(a, b);
            // Just below a product, where a guess of a digit is too great.
            quotients(a.multiply(b).subtract(BigInteger.ONE).mod(BigInteger.ONE.shiftLeft(12 * BITS)), b);
        }
        guesses();
        C.finish();
    }

    /** Limbs at the edges of what a limb can be. */
    private static BigInteger made(Random random, int limbs) {
        BigInteger number = BigInteger.ZERO;
        for (int i = 0; i < limbs; i++) {
            long[] edges = {0, 1, 2, MASK, MASK - 1, 1L << BITS - 1, (1L << BITS - 1) - 1, (1L << BITS - 1) + 1, random.nextInt(1 << BITS)};
            number = number.shiftLeft(BITS).add(BigInteger.valueOf(edges[random.nextInt(edges.length)]));
        }
        return random.nextBoolean() ? number.negate() : number;
    }

    private static Field field(String name) throws ReflectiveOperationException {
        Field found = kind.getDeclaredField(name);
        found.setAccessible(true);
        return found;
    }

    private static Object whole(BigInteger number) throws ReflectiveOperationException {
        Constructor<?> constructor = kind.getDeclaredConstructor();
        constructor.setAccessible(true);
        Object made = constructor.newInstance();
        long[] limb = (long[]) field("limb").get(made);
        BigInteger rest = number.abs();
        int length = 0;
        for (; rest.signum() != 0; length++) {
            limb[length] = rest.longValue() & MASK;
            rest = rest.shiftRight(BITS);
        }
        // What stands behind the last limb must not count.
        for (int i = length; i < limb.length; i++) {
            limb[i] = MASK;
        }
        field("length").setInt(made, length);
        field("below").setBoolean(made, number.signum() < 0);
        return made;
    }

    private static BigInteger number(Object whole) throws ReflectiveOperationException {
        long[] limb = (long[]) field("limb").get(whole);
        int length = field("length").getInt(whole);
        BigInteger number = BigInteger.ZERO;
        for (int i = length - 1; i >= 0; i--) {
            C.same("a limb is one", limb[i] >= 0 && limb[i] <= MASK, true);
            number = number.shiftLeft(BITS).add(BigInteger.valueOf(limb[i]));
        }
        C.same("the last limb is not 0", length > 0 && limb[length - 1] == 0, false);
        boolean below = field("below").getBoolean(whole);
        C.same("0 is not below 0", below && length == 0, false);
        return below ? number.negate() : number;
    }

    private static Object call(Object whole, String name, Object... arguments) throws ReflectiveOperationException {
        for (Method m : kind.getDeclaredMethods()) {
            if (m.getName().equals(name)) {
                m.setAccessible(true);
                try {
                    return m.invoke(whole, arguments);
                } catch (InvocationTargetException thrown) {
                    C.same(name + " threw " + thrown.getCause(), 1, 0);
                    return null;
                }
            }
        }
        throw new NoSuchMethodException(name);
    }

    private static void same(String what, Object whole, BigInteger due) throws ReflectiveOperationException {
        C.same(what, number(whole).toString(), due.toString());
    }

    private static void sums(BigInteger a, BigInteger b) throws ReflectiveOperationException {
        Object x = whole(a);
        call(x, "add", whole(b));
        same(a + " and " + b, x, a.add(b));
        Object y = whole(b);
        call(y, "add", whole(a));
        same(b + " and " + a, y, a.add(b));
        Object none = whole(a);
        call(none, "add", whole(a.negate()));
        same(a + " less itself", none, BigInteger.ZERO);
        Object product = whole(BigInteger.TEN);
        call(product, "setProduct", whole(a), whole(b));
        same(a + " times " + b, product, a.multiply(b));
        C.same("sign of " + a, (Integer) call(whole(a), "sign"), a.signum());
        int order = (Integer) call(whole(a), "compareSize", whole(b));
        C.same("size of " + a + " against " + b, order, a.abs().compareTo(b.abs()));
        Object turned = whole(a);
        call(turned, "negate");
        same("less " + a, turned, a.negate());
        Object copied = whole(b);
        call(copied, "copy", whole(a));
        same("as " + a, copied, a);
        if (a.bitLength() < 63) {
            Object told = whole(b);
            call(told, "setLong", a.longValue());
            same("told " + a, told, a);
        }
    }

    private static void quotients(BigInteger a, BigInteger b) throws ReflectiveOperationException {
        if (b.signum() == 0) {
            return;
        }
        Object x = whole(a);
        Object rest = whole(BigInteger.TEN);
        call(x, "divide", whole(b), rest, whole(BigInteger.ONE));
        same(a + " by " + b, x, a.divide(b));
        C.same("rest of " + a + " by " + b, number(rest).abs().toString(), a.abs().mod(b.abs()).toString());
        if (b.signum() > 0 && b.bitLength() <= BITS) {
            Object small = whole(a.abs());
            long left = (Long) call(small, "divideSmall", b.longValue());
            same(a.abs() + " by the small " + b, small, a.abs().divide(b));
            C.same("rest of " + a.abs() + " by the small " + b, left, a.abs().mod(b).longValue());
        }
    }

    /** Quotients whose guess from the first limbs is too great even behind the second look: a limb of the divisor comes back. */
    private static void guesses() throws ReflectiveOperationException {
        BigInteger base = BigInteger.ONE.shiftLeft(BITS);
        BigInteger half = BigInteger.ONE.shiftLeft(BITS - 1);
        for (int shift = 0; shift < BITS; shift++) {
            BigInteger by = half.multiply(base).multiply(base).add(BigInteger.ONE).shiftRight(shift).add(BigInteger.ONE);
            BigInteger whole = half.multiply(base.pow(3)).subtract(BigInteger.ONE);
            quotients(whole, by);
            quotients(whole.negate(), by);
            quotients(half.multiply(base.pow(3)), by);
            quotients(by.multiply(BigInteger.valueOf(MASK)).subtract(BigInteger.ONE), by);
        }
        BigInteger by = half.multiply(base.pow(2)).add(BigInteger.ONE);
        quotients(half.multiply(base.pow(3)), by);
        quotients(half.multiply(base.pow(4)).add(base.pow(2)), by);
        BigInteger three = half.multiply(base.pow(2)).add(base.subtract(BigInteger.ONE));
        quotients(half.multiply(base.pow(3)).add(base.multiply(BigInteger.valueOf(3))), three);
    }
}
