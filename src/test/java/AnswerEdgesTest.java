import java.math.BigInteger;

/** The edges of ANSWERS and of promises 11 to 16, a sentence of the document at a time. */
public final class AnswerEdgesTest {
    private static final int NONE = OptimaWorks.NONE;
    private static final int LEAST = Integer.MIN_VALUE;
    private static final int GREATEST = Integer.MAX_VALUE;
    private static final Checks C = new Checks("AnswerEdgesTest");
    private static final String AB = "var a from 0 to 4;var b from 0 to 4;";

    public static void main(String[] args) {
        ends();
        wholes();
        ways();
        differents();
        order();
        counted();
        relaxed();
        solves();
        values();
        bests();
        firstWays();
        counts();
        numbers();
        C.finish();
    }

    /** The variables' numbers, or none. */
    private static String answer(OptimaWorks x, boolean relaxed) {
        if (!x.solve(relaxed)) {
            return "none";
        }
        StringBuilder text = new StringBuilder();
        for (int k = 0; k < x.about(2); k++) {
            x.value(k);
            text.append(k == 0 ? "" : " ").append(Checks.outputOf(x));
        }
        return text.toString();
    }

    private static void answers(String told, String due) {
        C.same(told, answer(Checks.reading(told), false), due);
    }

    private static void relaxedAnswers(String told, String due) {
        C.same("relaxed " + told, answer(Checks.reading(told), true), due);
    }

    private static void ends() {
        C.sentence("A SOLUTION gives each variable a number from its from to its to,");
        String a = "var a from -3 to 5;";
        answers(a + "row r:a<=-3;", "-3");
        answers(a + "row r:a<=-4;", "none");
        answers(a + "row r:2*a<=-7;", "none");
        answers(a + "row r:a>=5;", "5");
        answers(a + "row r:a>=6;", "none");
        answers(a + "row r:2*a>=11;", "none");
        answers(a + "row r:a=5;", "5");
        answers(a + "row r:a=6;", "none");
        answers(a + "min a;", "-3");
        answers(a + "max a;", "5");
        answers("var a from 7 to 7;max a;", "7");
        answers("var a from -999 to 999;max a;", "999");
        answers("var a from -999 to 999;min a;", "-999");
        answers("", "");
        answers("row r:0<=0;row q:0>=0;row p:0=0;", "");
        answers("row r:0<=-1;", "none");
        answers("row r:0>=1;", "none");
        answers("row r:0=1;", "none");
    }

    private static void wholes() {
        C.sentence("whole ones a whole one,");
        answers("var a from 0 to 3;row r:2*a=3;", "3/2");
        answers("var a whole from 0 to 3;row r:2*a=3;", "none");
        answers("var a whole from 0 to 3;row r:2*a>=3;", "2");
        answers("var a whole from 0 to 3;row r:2*a<=3;max a;", "1");
        answers("var a whole from 0 to 3;row r:2*a>=6;", "3");
        answers("var a whole from 0 to 3;row r:2*a>=7;", "none");
        answers("var a whole from -3 to 0;row r:2*a<=-3;max a;", "-2");
        answers("var a whole from 0 to 3;var b from 0 to 3;row r:2*b=a;max b;", "3 3/2");
        answers("var a whole from 0 to 63;max a;", "63");
        answers("var a whole from 999 to 999;", "999");
    }

    private static void ways() {
        C.sentence("such that of each row at least one WAY holds,");
        answers(AB + "row r:a>=5 or b>=4;", "0 4");
        answers(AB + "row r:a>=5 or b>=5;", "none");
        answers(AB + "row r:a>=5 or b>=5 or a+b>=8;", "4 4");
        answers(AB + "row r:a>=5 or b>=5 or a+b>=9;", "none");
        answers(AB + "row r:a>=1 or b>=1;row q:a<=0 or b>=4;", "0 1");
        answers(AB + "row r:a>=1 or b>=1;row q:a<=0 or b>=4;row p:b<=0;", "none");
        answers(AB + "row r:a>=1 or a<=3;", "0 0");
    }

    private static void differents() {
        C.sentence("and that variables of a different differ.");
        String v = "set s=1..3;var v[s]whole from 0 to 2;";
        answers(v, "0 0 0");
        answers(v + "different v;", "0 1 2");
        answers(v + "different v;max v[1]-v[3];", "2 1 0");
        answers("set s=1..3;var v[s]whole from 0 to 1;different v;", "none");
        answers(v + "var w whole from 2 to 2;different v;different w;", "0 1 2 2");
        answers(v + "var w whole from 2 to 2;different v,w;", "none");
        answers("var a whole from 0 to 1;var b whole from 1 to 1;different a,b;", "0 1");
        answers("var a whole from 1 to 1;var b whole from 1 to 1;different a,b;", "none");
        answers("var a whole from 1 to 1;different a;different a,a;", "1");
    }

    private static void order() {
        C.sentence("of all solutions: the first goal is as good as can be (least for min, greatest for max), of these the second, of these the third; "
            + "of these variable 0's number is the least, of these variable 1's, and so on.");
        String s = AB + "var d from 0 to 4;row r:a+b+d=4;";
        answers(s, "0 0 4");
        answers(s + "min 0;", "0 0 4");
        answers(s + "max a;", "4 0 0");
        answers(s + "min d;", "0 4 0");
        answers(s + "min d;max a;", "4 0 0");
        answers(s + "max a+b;min b;", "4 0 0");
        answers(s + "max a+b+d;max b;min a;", "0 4 0");
        answers(s + "max a+b+d;min d;max a-b;", "4 0 0");
        answers(s + "max a+b+d;min d;min a-b;", "0 4 0");
        answers(s + "max 0-a;max b;min d;", "0 4 0");
        // A variable that is as little as can be stays so when the next ones are made less.
        answers(AB + "row r:a+2*b>=4;", "0 2");
        answers(AB + "row r:2*a+b>=4;", "0 4");
        answers(AB + "row r:2*a+b>=6;", "1 4");
        answers(AB + "var d from 0 to 4;row r:a+b+2*d>=4;", "0 0 2");
        answers(AB + "var d from 0 to 4;row r:a+2*b+d>=7;", "0 3/2 4");
        answers(AB + "var d from 0 to 4;row r:a+2*b+3*d>=7;max 0*a;", "0 0 7/3");
        answers(AB + "var d from 0 to 4;row r:3*a+2*b+d>=22;", "10/3 4 4");
        // Two ways to the same answer.
        answers("set s=1..8;var v[s]from 1 to 2;row r:v[1]+v[8]>=3 or v[8]>=2 or v[1]<=1;", "1 1 1 1 1 1 1 1");
        answers("set s=1..8;var v[s]from 1 to 2;row r:v[1]>=1 or v[8]>=1;max v[3];", "1 1 2 1 1 1 1 1");
        // The goals count in their order, whatever comes behind.
        answers(AB + "max a;min a;", "4 0");
        answers(AB + "min a;max a;", "0 0");
        answers(AB + "min 5;max b;min b;", "0 4");
        // Whole ones and ways are tied like this, too.
        answers("var a whole from 0 to 3;var b whole from 0 to 3;row r:a+b>=3;min a+b;", "0 3");
        answers("var a whole from 0 to 3;var b whole from 0 to 3;row r:a=3 or b=3;min a+b;", "0 3");
        answers("var a whole from 0 to 3;var b whole from 0 to 3;row r:a=3 or b=3;min a+b;max a;", "3 0");
        answers("var a from 0 to 3;var b whole from 0 to 3;row r:2*a+2*b=5;", "1/2 2");
    }

    private static void counted() {
        C.sentence("COUNTED are the different rows of the whole variables' numbers (in the order of the variables) that solutions have; "
            + "in their order, the first numbers first.");
        OptimaWorks x = Checks.reading("var a whole from -1 to 1;var b from 0 to 9;var d whole from 5 to 6;row r:a+d>=5 or b>=20;row q:b<=3 or b>=4;");
        int[][] due = {{-1, 6}, {0, 5}, {0, 6}, {1, 5}, {1, 6}};
        C.same("count()", x.count(), 5);
        for (int k = 0; k < due.length; k++) {
            C.same("counted(" + k + ", 0)", x.counted(k, 0), due[k][0]);
            C.same("counted(" + k + ", 2)", x.counted(k, 2), due[k][1]);
        }
        // Several ways or other numbers make no new row.
        C.same("one row", Checks.reading("var a whole from 1 to 1;var b from 0 to 9;row r:b<=5 or b>=2 or a=1;").count(), 1);
        C.same("no whole ones, a solution", Checks.reading(AB).count(), 1);
        C.same("no whole ones, no solution", Checks.reading(AB + "row r:a>=5;").count(), 0);
        C.same("no variables", Checks.reading("").count(), 1);
        C.same("no variables, no solution", Checks.reading("row r:0>=1;").count(), 0);
        C.same("all of 64", Checks.reading("var a whole from 1 to 64;").count(), 64);
        C.same("none of 64", Checks.reading("var a whole from 1 to 64;row r:a>=65;").count(), 0);
        C.same("the last of 64", Checks.reading("var a whole from 1 to 64;row r:a>=64;").counted(0, 0), 64);
        C.same("goals do not count", Checks.reading("var a whole from 1 to 5;max a;").count(), 5);
        C.same("different ones", Checks.reading("set s=1..3;var a[s]whole from 0 to 2;different a;").count(), 6);
    }

    private static void relaxed() {
        C.sentence("RELAXED is the model without whole, different, and without rows of more than one way; its answer likewise.");
        String v = "var a whole from 0 to 3;var b whole from 0 to 3;";
        relaxedAnswers(v + "row r:2*a=3;", "3/2 0");
        answers(v + "row r:2*a=3;", "none");
        relaxedAnswers(v + "different a,b;", "0 0");
        answers(v + "different a,b;", "0 1");
        relaxedAnswers(v + "row r:a>=1 or b>=1;", "0 0");
        answers(v + "row r:a>=1 or b>=1;", "0 1");
        relaxedAnswers(v + "row r:a>=9 or b>=9;", "0 0");
        relaxedAnswers(v + "row r:a>=1;row q:a>=9 or b>=9;", "1 0");
        relaxedAnswers(v + "row r:a>=4;", "none");
        relaxedAnswers(v + "row r:a>=3;", "3 0");
        relaxedAnswers(v + "row r:2*a+2*b=5;max b;max a;", "0 5/2");
        relaxedAnswers(AB + "row r:3*a+3*b=7;", "0 7/3");
        relaxedAnswers("", "");
    }

    private static void solves() {
        C.sentence("has a solution; THE ANSWER is that one's from now on. IllegalStateException: there is no model.");
        OptimaWorks x = new OptimaWorks();
        C.badState("solve(false)", () -> x.solve(false) ? 1 : 0);
        C.badState("solve(true)", () -> x.solve(true) ? 1 : 0);
        Checks.tell(x, "var a whole from 0 to 3;row r:2*a>=3;row q:2*a<=3;min a;");
        x.read();
        C.same("solve(false)", x.solve(false), false);
        C.badState("value(0)", () -> x.value(0));
        C.same("solve(true)", x.solve(true), true);
        C.output("value(0)", x, x.value(0), "3/2");
        C.same("solve(false) again", x.solve(false), false);
        C.badState("value(0): the latest one found none", () -> x.value(0));
        C.same("solve(true) again", x.solve(true), true);
        C.same("solve(true) once more", x.solve(true), true);
        C.output("best(0)", x, x.best(0), "3/2");
        Checks.tell(x, "?");
        C.badArgument("read()", () -> x.read());
        C.badState("solve(true) behind a fault", () -> x.solve(true) ? 1 : 0);
        OptimaWorks y = Checks.reading("var a whole from 0 to 3;row r:2*a>=3;");
        y.solve(true);
        C.output("value(0), relaxed", y, y.value(0), "3/2");
        y.solve(false);
        C.output("value(0)", y, y.value(0), "2");
    }

    private static void values() {
        C.sentence("IllegalStateException: no answer (no solve() since the latest read(), or the latest one found no solution; this first).");
        int[] some = {0, 1, -1, 2, LEAST, GREATEST};
        OptimaWorks x = new OptimaWorks();
        for (int k : some) {
            C.badState("value(" + k + ") of a new object", () -> x.value(k));
        }
        Checks.tell(x, AB + "row r:a>=4;min b;");
        x.read();
        for (int k : some) {
            C.badState("value(" + k + ") ahead of solve()", () -> x.value(k));
        }
        x.count();
        x.prove();
        C.badState("value(0): count() and prove() are no solve()", () -> x.value(0));
        x.solve(false);
        C.output("value(0)", x, x.value(0), "4");
        C.output("value(1)", x, x.value(1), "0");
        x.read();
        C.badState("value(0): a read() came", () -> x.value(0));
        x.solve(true);
        C.output("value(0), relaxed", x, x.value(0), "4");
        Checks.tell(x, "row q:a<=3;");
        C.output("value(0) till the next read()", x, x.value(0), "4");
        x.read();
        x.solve(false);
        for (int k : some) {
            C.badState("value(" + k + ") without a solution", () -> x.value(k));
        }
        C.sentence("IndexOutOfBoundsException: there is no such variable.");
        OptimaWorks y = Checks.reading(AB);
        y.solve(false);
        int[] none = {-1, 2, 8, LEAST, GREATEST};
        for (int k : none) {
            C.badIndex("value(" + k + ")", () -> y.value(k));
        }
        OptimaWorks empty = Checks.reading("");
        empty.solve(false);
        C.badIndex("value(0) of none", () -> empty.value(0));
    }

    private static void bests() {
        C.sentence("The output is goal g's value in the answer. Exceptions likewise.");
        OptimaWorks x = Checks.reading(AB + "max a+b+1/2;min 3;max -a-7;");
        int[] some = {0, 3, -1, LEAST, GREATEST};
        for (int g : some) {
            C.badState("best(" + g + ") ahead of solve()", () -> x.best(g));
        }
        x.solve(false);
        C.output("best(0)", x, x.best(0), "17/2");
        C.output("best(1)", x, x.best(1), "3");
        C.output("best(2)", x, x.best(2), "-11");
        int[] none = {-1, 3, LEAST, GREATEST};
        for (int g : none) {
            C.badIndex("best(" + g + ")", () -> x.best(g));
        }
        Checks.tell(x, "row r:a>=5;");
        x.read();
        x.solve(false);
        for (int g : some) {
            C.badState("best(" + g + ") without a solution", () -> x.best(g));
        }
        OptimaWorks y = Checks.reading(AB);
        y.solve(false);
        C.badIndex("best(0) without goals", () -> y.best(0));
    }

    private static void firstWays() {
        C.sentence("The first way of row r that holds in the answer; NONE if none does (of a relaxed one). Exceptions likewise.");
        OptimaWorks x = Checks.reading(AB + "row r:a>=1 or a<=0 or b<=9;row q:a<=-1 or b>=9 or a+b=0;row p:b<=4;row o:a>=1 or b>=1;min a+b;");
        int[] some = {0, 4, -1, LEAST, GREATEST};
        for (int r : some) {
            C.badState("way(" + r + ") ahead of solve()", () -> x.way(r));
        }
        x.solve(true);
        C.same("way(0), relaxed", x.way(0), 1);
        C.same("way(1), relaxed", x.way(1), 2);
        C.same("way(2), relaxed", x.way(2), 0);
        C.same("way(3), relaxed: none", x.way(3), NONE);
        x.solve(false);
        C.same("solve(false): a + b can't be 0 with way 3 of q", x.solve(false), false);
        for (int r : some) {
            C.badState("way(" + r + ") without a solution", () -> x.way(r));
        }
        OptimaWorks y = Checks.reading(AB + "row r:a>=3 or a<=1 or a=2;row q:a<=2;max a;max b;");
        y.solve(false);
        C.same("way(0): = holds", y.way(0), 2);
        C.same("way(1): <= holds even", y.way(1), 0);
        int[] none = {-1, 2, 12, LEAST, GREATEST};
        for (int r : none) {
            C.badIndex("way(" + r + ")", () -> y.way(r));
        }
        OptimaWorks z = Checks.reading(AB + "row r:a>=4 or a<=4;max a;row q:a<=3 or a>=4;");
        z.solve(false);
        C.same("way(0): >= holds even", z.way(0), 0);
        C.same("way(1)", z.way(1), 1);
        OptimaWorks none1 = Checks.reading(AB);
        none1.solve(false);
        C.badIndex("way(0) without rows", () -> none1.way(0));
    }

    private static void counts() {
        C.sentence("Of the k-th that is counted: the number of variable v; NONE * 1000 if there is none such, or v is not whole. "
            + "IllegalStateException: there is no model.");
        OptimaWorks x = new OptimaWorks();
        C.badState("counted(0, 0)", () -> x.counted(0, 0));
        C.badState("counted(-1, -1)", () -> x.counted(-1, -1));
        Checks.tell(x, "var a whole from -999 to -998;var b from 0 to 1;");
        x.read();
        C.same("counted(0, 0) without count()", x.counted(0, 0), -999);
        C.same("counted(1, 0)", x.counted(1, 0), -998);
        int[][] none = {{2, 0}, {-1, 0}, {LEAST, 0}, {GREATEST, 0}, {64, 0}, {0, 1}, {1, 1}, {0, 2}, {0, -1}, {0, 8}, {0, LEAST}, {0, GREATEST}};
        for (int[] n : none) {
            C.same("counted(" + n[0] + ", " + n[1] + ")", x.counted(n[0], n[1]), -1000);
        }
        OptimaWorks eight = Checks.reading("set s=1..8;var a[s]whole from 1 to 1;");
        C.same("counted(0, 7) of eight", eight.counted(0, 7), 1);
        C.same("counted(0, 8) of eight", eight.counted(0, 8), -1000);
        eight.wipe();
        Checks.tell(eight, "set s=1..2;var a[s]whole from 3 to 3;");
        eight.read();
        C.same("counted(0, 1) of two", eight.counted(0, 1), 3);
        C.same("counted(0, 2) of two, though it was whole", eight.counted(0, 2), -1000);
        C.same("counted(1, 1) of one row", eight.counted(1, 1), -1000);
        OptimaWorks full = Checks.reading("set s=1..6;var a[s]whole from 0 to 1;");
        for (int v = 0; v < 6; v++) {
            C.same("counted(63, " + v + ")", full.counted(63, v), 1);
            C.same("counted(21, " + v + ")", full.counted(21, v), v % 2);
            C.same("counted(64, " + v + ")", full.counted(64, v), -1000);
        }
        C.sentence("How many are COUNTED. IllegalStateException: there is no model.");
        C.badState("count()", () -> new OptimaWorks().count());
        C.same("count()", full.count(), 64);
        Checks.tell(full, "?");
        C.badArgument("read()", () -> full.read());
        C.badState("count() behind a fault", () -> full.count());
        C.badState("counted() behind a fault", () -> full.counted(0, 0));
    }

    private static void numbers() {
        C.sentence("NUMBERS are told as text: -, if below 0, digits, and / and digits if there is a denominator (shortened).");
        String[][] due = {{"0", "0"}, {"7", "7"}, {"-7", "-7"}, {"10", "10"}, {"-100", "-100"}, {"1/2", "1/2"}, {"-1/2", "-1/2"}, {"6/4", "3/2"},
            {"-6/4", "-3/2"}, {"4/2", "2"}, {"0/5", "0"}, {"9999/9998", "9999/9998"}, {"-9999", "-9999"}, {"1/9999", "1/9999"}};
        for (String[] d : due) {
            for (String goal : new String[] {"min ", "max "}) {
                OptimaWorks x = Checks.reading(goal + d[0] + ";");
                x.solve(false);
                C.output(goal + d[0], x, x.best(0), d[1]);
            }
        }
        OptimaWorks x = Checks.reading("var a from -9 to 9;row r:6*a=-4;min 3/4*a-1/2;");
        x.solve(false);
        C.output("value(0)", x, x.value(0), "-2/3");
        C.output("best(0)", x, x.best(0), "-1");
        OptimaWorks y = Checks.reading("var a from 0 to 999;row r:97*a=89;min 98/99*a+9997/9999;");
        y.solve(true);
        C.output("value(0)", y, y.value(0), "89/97");
        // 98/99 * 89/97 + 9997/9999, that is (8722 * 101 + 9997 * 97) / (9603 * 101), shortened by 3.
        C.output("best(0)", y, y.best(0), "616877/323301");
        // Eight denominators, all alike, then without a common divisor: the second sum is beyond a long.
        String eight = "set s=1..8;var v[s]from 0 to 999;";
        OptimaWorks alike = Checks.reading(eight + "max sum{i in s}(98/99*v[i])-9998/9999;");
        alike.solve(false);
        // 98/99 * 7992 less 9998/9999, that is (98 * 7992 * 101 - 9998) / 9999, shortened by 11.
        C.output("best(0), all alike", alike, alike.best(0), "7190438/909");
        OptimaWorks unlike = Checks.reading(eight + "max 98/99*v[1]+97/98*v[2]+96/97*v[3]+94/95*v[4]+88/89*v[5]+82/83*v[6]+78/79*v[7]+72/73*v[8]+1/9973;");
        unlike.solve(true);
        BigInteger under = BigInteger.ONE;
        BigInteger over = BigInteger.ZERO;
        int[][] parts = {{98 * 999, 99}, {97 * 999, 98}, {96 * 999, 97}, {94 * 999, 95}, {88 * 999, 89}, {82 * 999, 83}, {78 * 999, 79}, {72 * 999, 73}, {1, 9973}};
        for (int[] p : parts) {
            over = over.multiply(BigInteger.valueOf(p[1])).add(under.multiply(BigInteger.valueOf(p[0])));
            under = under.multiply(BigInteger.valueOf(p[1]));
        }
        BigInteger common = over.gcd(under);
        C.output("best(0), unlike", unlike, unlike.best(0), over.divide(common) + "/" + under.divide(common));
    }
}
