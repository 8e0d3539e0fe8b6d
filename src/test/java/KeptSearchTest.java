import java.math.BigInteger;
import java.util.Random;

/** Ways as KEPT and goals, of numbers at random that are near the edges, against fractions without a limit. */
public final class KeptSearchTest {
    private static final int NONE = OptimaWorks.NONE;
    private static final Checks C = new Checks("KeptSearchTest");
    private static final int[] OVER = {0, 0, 1, 1, 2, 3, 9, 10, 11, 49, 50, 97, 98, 99, 100, 101, 198, 200, 9998, 9999, 10000, 65536, 99998, 99999, 100000, 199998, 999999};
    private static final int[] UNDER = {1, 1, 1, 1, 2, 3, 4, 9, 10, 11, 33, 98, 99, 100, 9999, 10000, 65536, 99999, 999999};
    private static final String[] NAMES = {"", "*x", "*y", "*z"};
    private static final int FREE = 2;

    public static void main(String[] args) {
        Random random = new Random(20261116);
        for (int i = 0; i < 20000; i++) {
            tryWay(random);
            tryGoal(random);
        }
        C.finish();
    }

    /** One number alone, then one for each variable; most are small, for else all would be too great. */
    private static SearchTest.Ratio[] side(Random random, int bold) {
        SearchTest.Ratio[] made = new SearchTest.Ratio[NAMES.length];
        for (int k = 0; k < made.length; k++) {
            boolean plain = random.nextInt(4) >= bold;
            int over = plain ? random.nextInt(12) : OVER[random.nextInt(OVER.length)];
            int under = plain ? 1 + random.nextInt(3) : UNDER[random.nextInt(UNDER.length)];
            boolean none = k > 0 && random.nextInt(3) == 0;
            BigInteger top = BigInteger.valueOf(none ? 0 : random.nextBoolean() ? over : -over);
            made[k] = SearchTest.Ratio.made(top, BigInteger.valueOf(under));
        }
        return made;
    }

    private static String told(SearchTest.Ratio[] side) {
        StringBuilder text = new StringBuilder("0");
        for (int k = 0; k < side.length; k++) {
            if (side[k].over().signum() != 0) {
                text.append(side[k].over().signum() < 0 ? "-" : "+").append(side[k].over().abs()).append("/").append(side[k].under()).append(NAMES[k]);
            }
        }
        return text.toString();
    }

    private static boolean isAbove(BigInteger number, int limit) {
        return number.abs().compareTo(BigInteger.valueOf(limit)) > 0;
    }

    private static OptimaWorks reading(String text, boolean great, int place) {
        OptimaWorks x = new OptimaWorks();
        Checks.tell(x, text);
        boolean read = true;
        try {
            x.read();
        } catch (IllegalArgumentException fault) {
            read = false;
        }
        C.same("fault(0) of " + text, x.fault(0), great ? 9 : 0);
        C.same("fault(1) of " + text, x.fault(1), great ? place : NONE);
        return read && !great ? x : null;
    }

    private static void tryWay(Random random) {
        SearchTest.Ratio[] left = side(random, random.nextInt(FREE + 1));
        SearchTest.Ratio[] right = side(random, random.nextInt(FREE + 1));
        BigInteger scale = BigInteger.ONE;
        SearchTest.Ratio[] rest = new SearchTest.Ratio[left.length];
        for (int k = 0; k < rest.length; k++) {
            rest[k] = left[k].plus(right[k].turned());
            scale = scale.divide(scale.gcd(rest[k].under())).multiply(rest[k].under());
        }
        BigInteger[] whole = new BigInteger[rest.length];
        BigInteger common = BigInteger.ZERO;
        for (int k = 0; k < rest.length; k++) {
            whole[k] = rest[k].over().multiply(scale.divide(rest[k].under()));
            common = common.gcd(whole[k]);
        }
        boolean great = false;
        for (int k = 0; k < rest.length && common.signum() != 0; k++) {
            whole[k] = whole[k].divide(common);
            great |= isAbove(whole[k], k == 0 ? 99999 : 99);
        }
        String ahead = "var x from 0 to 1;var y from 0 to 1;var z from 0 to 1;row r:";
        String text = ahead + told(left) + "<=" + told(right) + ";";
        OptimaWorks x = reading(text, great, ahead.length());
        for (int k = 1; k < rest.length && x != null; k++) {
            C.same("variable " + (k - 1) + " of " + text, x.row(0, 0, k - 1), whole[k].longValueExact());
        }
        if (x != null) {
            C.same("right side of " + text, x.row(0, 0, NONE), -whole[0].longValueExact());
        }
    }

    private static void tryGoal(Random random) {
        SearchTest.Ratio[] side = side(random, random.nextInt(FREE + 1));
        boolean great = false;
        for (int k = 0; k < side.length; k++) {
            int limit = k == 0 ? 9999 : 99;
            great |= isAbove(side[k].over(), limit) || isAbove(side[k].under(), limit);
        }
        String ahead = "var x from 0 to 1;var y from 0 to 1;var z from 0 to 1;max ";
        String text = ahead + told(side) + ";";
        OptimaWorks x = reading(text, great, ahead.length());
        for (int k = 0; k < side.length && x != null; k++) {
            C.same("number " + k + " of " + text, x.goal(0, k - 1, false), side[k].over().longValueExact());
            C.same("number " + k + " of " + text + ", under", x.goal(0, k - 1, true), side[k].under().longValueExact());
        }
    }
}
