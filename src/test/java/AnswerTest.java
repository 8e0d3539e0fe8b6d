import java.math.BigInteger;

/** Promises 11 to 16: solve, value, best, way, count, counted. */
public final class AnswerTest {
    private static final int NONE = OptimaWorks.NONE;

    public static void main(String[] args) {
        Checks c = new Checks("AnswerTest");
        plain(c);
        order(c);
        ways(c);
        whole(c);
        relaxed(c);
        exact(c);
        states(c);
        counting(c);
        c.finish();
    }

    private static void answer(Checks c, String told, boolean relaxed, String due) {
        OptimaWorks x = Checks.reading(told);
        StringBuilder got = new StringBuilder();
        if (x.solve(relaxed)) {
            for (int k = 0; k < x.about(2); k++) {
                x.value(k);
                got.append(Checks.outputOf(x)).append(' ');
            }
            got.append('|');
            for (int g = 0; g < x.about(4); g++) {
                x.best(g);
                got.append(' ').append(Checks.outputOf(x));
            }
        } else {
            got.append("none");
        }
        c.same((relaxed ? "relaxed " : "") + told, got.toString(), due);
    }

    private static void plain(Checks c) {
        answer(c, "", false, "|");
        answer(c, "min 3;", false, "| 3");
        answer(c, "row r:1<=0;", false, "none");
        answer(c, "row r:0<=1;", false, "|");
        answer(c, "var a from -3 to 7;", false, "-3 |");
        answer(c, "var a from -3 to 7;max a;", false, "7 | 7");
        answer(c, "var a from -3 to 7;min -2*a+1/2;", false, "7 | -27/2");
        answer(c, "var a from 0 to 9;var b from 0 to 9;row r:2*a+b<=7;row q:a+3*b<=9;max a+b;", false, "12/5 11/5 | 23/5");
        answer(c, "var a from 0 to 9;var b from 0 to 9;row r:a+b=7;row q:a-b=2;", false, "9/2 5/2 |");
        answer(c, "var a from 0 to 9;var b from 0 to 9;row r:a+b=7;row q:2*a+2*b=14;min b;", false, "7 0 | 0");
        answer(c, "var a from 0 to 9;var b from 0 to 9;row r:a+b=7;row q:a+b=8;", false, "none");
        answer(c, "var a from 0 to 9;row r:a>=5;row q:a<=4;", false, "none");
        answer(c, "var a from 0 to 9;row r:a>=10;", false, "none");
        answer(c, "var a from 4 to 4;row r:3*a=12;max a;", false, "4 | 4");
        answer(c, "var a from -9 to -1;var b from -9 to 9;row r:a*2-b*3>=1;max b;", false, "-1 -1 | -1");
    }

    /** Goals in their order, then the first variables as little as can be. */
    private static void order(Checks c) {
        String v = "var a from 0 to 4;var b from 0 to 4;var d from 0 to 4;row r:a+b+d=6;";
        answer(c, v, false, "0 2 4 |");
        answer(c, v + "max a;", false, "4 0 2 | 4");
        answer(c, v + "max a;max b;", false, "4 2 0 | 4 2");
        answer(c, v + "max a+b;", false, "2 4 0 | 6");
        answer(c, v + "max a+b;max a;", false, "4 2 0 | 6 4");
        answer(c, v + "max a+b;max 2;min b;", false, "4 2 0 | 6 2 2");
        answer(c, v + "min a;max b;max d;", false, "0 4 2 | 0 4 2");
    }

    private static void ways(Checks c) {
        String v = "var a from 0 to 9;var b from 0 to 9;";
        answer(c, v + "row r:a>=5 or b>=3;min a+b;", false, "0 3 | 3");
        answer(c, v + "row r:a>=5 or b>=3;min a+2*b;", false, "5 0 | 5");
        answer(c, v + "row r:a>=3 or b>=3;min a+b;", false, "0 3 | 3");
        answer(c, v + "row r:a<=-1 or a>=99;", false, "none");
        answer(c, v + "row r:a<=1 or a>=8;row q:b<=2 or b>=7;row p:a+b=10;max a;", false, "9 1 | 9");
        answer(c, v + "row r:a<=1 or a>=8;row q:b<=2 or b>=7;row p:a+b=10;", false, "1 9 |");
        OptimaWorks x = Checks.reading(v + "row r:a>=5 or b>=3 or a+b=3;row q:a<=9;min a;min b;");
        x.solve(false);
        c.same("first way that holds", x.way(0), 1);
        c.same("way of a plain row", x.way(1), 0);
        c.badIndex("way(2)", () -> x.way(2));
        c.badIndex("way(-1)", () -> x.way(-1));
        x.wipe();
        Checks.tell(x, v + "row r:a=9 or a>=5 or b<=3;max a;");
        x.read();
        x.solve(false);
        c.same("the first of several", x.way(0), 0);
    }

    private static void whole(Checks c) {
        String v = "var a whole from 0 to 5;var b whole from 0 to 5;";
        answer(c, v + "row r:2*a+2*b=5;", false, "none");
        answer(c, v + "row r:2*a+3*b>=7;min a+b;", false, "0 3 | 3");
        answer(c, v + "row r:2*a+3*b>=7;min 2*a+2*b;min b;", false, "2 1 | 6 1");
        answer(c, v + "different a,b;min a+b;", false, "0 1 | 1");
        answer(c, v + "different a,b;row r:a=b;", false, "none");
        answer(c, v + "different a,a;row r:a=b;", false, "0 0 |");
        answer(c, "set s=1..3;var a[s]whole from 1 to 3;different a;max a[1]+a[1]+a[2];", false, "3 2 1 | 8");
        answer(c, "set s=1..3;var a[s]whole from 1 to 2;different a;", false, "none");
        answer(c, "var a whole from 0 to 3;var b from 0 to 9;row r:2*b=a+1/2;max b;", false, "3 7/4 | 7/4");
        answer(c, "var b from 0 to 9;var a whole from 0 to 3;row r:2*b=a+1/2;row q:b>=1;", false, "5/4 2 |");
    }

    private static void relaxed(Checks c) {
        String v = "var a whole from 0 to 4;var b whole from 0 to 4;";
        answer(c, v + "row r:2*a+2*b=5;", true, "0 5/2 |");
        answer(c, v + "different a,b;min a+b;", true, "0 0 | 0");
        answer(c, v + "row r:a>=4 or b>=3;min a+b;", true, "0 0 | 0");
        answer(c, v + "row r:a>=4 or b>=3;row q:a+b>=1;min a+b;", true, "0 1 | 1");
        OptimaWorks x = Checks.reading(v + "row r:a>=4 or b>=3;row q:a>=1/2;min a+b;");
        c.same("solve(true)", x.solve(true), true);
        c.same("way(0) of a relaxed one", x.way(0), NONE);
        c.same("way(1)", x.way(1), 0);
        c.output("value(0)", x, x.value(0), "1/2");
        c.same("solve(false)", x.solve(false), true);
        c.output("value(0)", x, x.value(0), "1");
        c.same("way(0)", x.way(0), 1);
    }

    /** Numbers that no long has. */
    private static void exact(Checks c) {
        answer(c, "set s=1..8;var x[s]from 0 to 5;max x[1]/97+x[2]/89+x[3]/83+x[4]/79+x[5]/73+x[6]/71+x[7]/67+x[8]/61;", false,
            sumOfEight());
        answer(c, "var a from 0 to 999;var b from 0 to 999;row r:97*a+89*b=99999;row q:83*a-79*b=1;max a/71+b/73+9999/9998;", false,
            twoRows());
    }

    private static String sumOfEight() {
        int[] primes = {97, 89, 83, 79, 73, 71, 67, 61};
        BigInteger under = BigInteger.ONE;
        for (int p : primes) {
            under = under.multiply(BigInteger.valueOf(p));
        }
        BigInteger over = BigInteger.ZERO;
        for (int p : primes) {
            over = over.add(under.divide(BigInteger.valueOf(p)).multiply(BigInteger.valueOf(5)));
        }
        return "5 5 5 5 5 5 5 5 | " + shortened(over, under);
    }

    private static String twoRows() {
        // By Cramer's rule.
        long det = 97L * -79 - 89L * 83;
        long a = 99999L * -79 - 89L;
        long b = 97L - 83L * 99999L;
        BigInteger under = big(det).multiply(big(71)).multiply(big(73)).multiply(big(9998));
        BigInteger over = big(a).multiply(big(73)).multiply(big(9998))
            .add(big(b).multiply(big(71)).multiply(big(9998)))
            .add(big(det).multiply(big(71)).multiply(big(73)).multiply(big(9999)));
        return shortened(big(a), big(det)) + " " + shortened(big(b), big(det)) + " | " + shortened(over, under);
    }

    private static BigInteger big(long n) {
        return BigInteger.valueOf(n);
    }

    private static String shortened(BigInteger over, BigInteger under) {
        BigInteger common = over.gcd(under);
        if (under.signum() < 0) {
            common = common.negate();
        }
        BigInteger bottom = under.divide(common);
        return over.divide(common) + (bottom.equals(BigInteger.ONE) ? "" : "/" + bottom);
    }

    private static void states(Checks c) {
        OptimaWorks x = Checks.reading("var a from 0 to 9;min a;row r:a>=2;");
        c.badState("value(0) ahead of solve()", () -> x.value(0));
        c.badState("value(9) ahead of solve()", () -> x.value(9));
        c.badState("best(0) ahead of solve()", () -> x.best(0));
        c.badState("best(-1) ahead of solve()", () -> x.best(-1));
        c.badState("way(5) ahead of solve()", () -> x.way(5));
        c.same("solve(false)", x.solve(false), true);
        c.same("solve(false) again", x.solve(false), true);
        c.output("value(0)", x, x.value(0), "2");
        c.badIndex("value(1)", () -> x.value(1));
        c.badIndex("value(-1)", () -> x.value(-1));
        c.badIndex("best(1)", () -> x.best(1));
        c.badIndex("best(-1)", () -> x.best(-1));
        c.same("what throws leaves the output", Checks.outputOf(x), "2");
        x.count();
        x.prove();
        c.output("value(0) behind count() and prove()", x, x.value(0), "2");
        x.read();
        c.badState("value(0) behind read()", () -> x.value(0));
        x.solve(true);
        Checks.tell(x, "row q:a<=1;");
        x.read();
        c.same("solve(true)", x.solve(true), false);
        c.badState("value(0) without a solution", () -> x.value(0));
        c.badState("way(0) without a solution", () -> x.way(0));
        Checks.tell(x, "?");
        c.badArgument("read()", () -> x.read());
        c.badState("solve(false) behind a fault", () -> x.solve(false) ? 1 : 0);
        c.badState("count() behind a fault", () -> x.count());
    }

    private static void counting(Checks c) {
        OptimaWorks x = Checks.reading("var a whole from 1 to 3;var b from 0 to 9;var d whole from -1 to 1;"
            + "row r:a+d>=3 or a=1;row q:b>=a;different a,d;min b;");
        // Rows of a and d: a = 1 with d -1 and 0 (1 is not different), a = 2 with 1, a = 3 with 0 and 1.
        int[][] due = {{1, -1}, {1, 0}, {2, 1}, {3, 0}, {3, 1}};
        c.same("count()", x.count(), due.length);
        for (int k = 0; k < due.length; k++) {
            c.same("counted(" + k + ", 0)", x.counted(k, 0), due[k][0]);
            c.same("counted(" + k + ", 1), not whole", x.counted(k, 1), NONE * 1000);
            c.same("counted(" + k + ", 2)", x.counted(k, 2), due[k][1]);
        }
        c.same("counted(5, 0)", x.counted(5, 0), NONE * 1000);
        c.same("counted(-1, 0)", x.counted(-1, 0), NONE * 1000);
        c.same("counted(0, 3)", x.counted(0, 3), NONE * 1000);
        c.same("counted(0, -1)", x.counted(0, -1), NONE * 1000);
        c.same("count() without whole ones", Checks.reading("var a from 0 to 1;").count(), 1);
        c.same("count() without solutions", Checks.reading("var a from 0 to 1;row r:a>=2;").count(), 0);
        c.same("count() of nothing", Checks.reading("").count(), 1);
        c.same("count() of 64", Checks.reading("set s=1..3;var a[s]whole from 0 to 3;").count(), 64);
        OptimaWorks y = Checks.reading("set s=1..3;var a[s]whole from 0 to 3;");
        c.same("counted(63, 2) without count()", y.counted(63, 2), 3);
        c.same("counted(27, 1)", y.counted(27, 1), 2);
        OptimaWorks none = Checks.reading("var a from 0 to 1;");
        c.same("counted(0, 0), not whole", none.counted(0, 0), NONE * 1000);
    }
}
