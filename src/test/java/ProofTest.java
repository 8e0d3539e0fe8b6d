/** Promises 17 to 19: prove, need, multiplier. */
public final class ProofTest {
    private static final int NONE = OptimaWorks.NONE;

    public static void main(String[] args) {
        Checks c = new Checks("ProofTest");
        bests(c);
        shortfalls(c);
        leftOut(c);
        needs(c);
        states(c);
        c.finish();
    }

    /** The multipliers of all needs, and behind | what is proved. */
    private static void proof(Checks c, String told, String due) {
        OptimaWorks x = Checks.reading(told);
        StringBuilder got = new StringBuilder();
        int kept = x.prove();
        for (int i = 0; i < x.about(7); i++) {
            c.same("length of multiplier(" + i + ")", x.multiplier(i), Checks.outputOf(x).length());
            got.append(Checks.outputOf(x)).append(' ');
            kept -= x.need(i, 0);
            c.same("need(" + i + ", 0) of " + told, x.need(i, 0), Checks.outputOf(x).equals("0") ? 0 : 1);
        }
        c.same("prove() of " + told, kept, 0);
        x.multiplier(NONE);
        c.same("proof of " + told, got + "| " + Checks.outputOf(x), due);
    }

    private static void bests(Checks c) {
        proof(c, "", "| 0");
        proof(c, "var a from 0 to 5;", "0 0 | 0");
        proof(c, "min 7/2;", "| 7/2");
        proof(c, "max 7/2;", "| -7/2");
        proof(c, "var a from -2 to 5;min 3*a+1;", "3 0 | -5");
        proof(c, "var a from -2 to 5;max 3*a+1;", "0 3 | -16");
        proof(c, "var a from 0 to 9;var b from 0 to 9;row r:2*a+b<=7;row q:a+3*b<=9;max a+b;", "2/5 1/5 0 0 0 0 | -23/5");
        proof(c, "var a from 0 to 9;var b from 0 to 9;row r:a+b=7;min 2*a+3*b;", "2 0 1 0 0 | 14");
        proof(c, "var a from 0 to 9;var b from 0 to 9;row r:-a-b=-7;min 2*a+3*b;", "-2 0 1 0 0 | 14");
        // Rows of several ways, whole and different count nothing; the second goal does not either.
        proof(c, "var a whole from 0 to 7;var b from 0 to 3;row r:a>=3 or b>=2;row q:2*a>=3;different a;min a;max b;", "1/2 0 0 0 0 | 3/2");
    }

    private static void shortfalls(Checks c) {
        proof(c, "row r:1<=0;", "1 | 1");
        proof(c, "row r:0=5;", "1 | 1");
        proof(c, "row r:5=0;", "-1 | 1");
        proof(c, "row r:0=-5;", "-1 | 1");
        proof(c, "var a from 0 to 9;row r:a>=10;", "1/2 0 1/2 | 1/2");
        proof(c, "var a from 0 to 9;row r:a<=-1;", "1/2 1/2 0 | 1/2");
        proof(c, "var a from 0 to 9;row r:a>=5;row q:a<=4;", "1/2 1/2 0 0 | 1/2");
        proof(c, "var a from 0 to 9;var b from 0 to 9;row r:a+b=7;row q:a+b=8;min a;", "-1/2 1/2 0 0 0 0 | 1/2");
        proof(c, "var a from 0 to 1;var b from 0 to 1;row r:2*a+3*b>=11;", "1/6 0 0 1/3 1/2 | 1");
    }

    /** Needs are left out from the last to the first: of two that tell the same the first one stays. */
    private static void leftOut(Checks c) {
        proof(c, "var a from 0 to 9;row r:a>=0;row q:2*a>=0;min a;", "1 0 0 0 | 0");
        proof(c, "var a from 0 to 9;row r:2*a>=0;row q:a>=0;min a;", "1 0 0 0 | 0");
        proof(c, "var a from 3 to 3;min a;", "1 0 | 3");
        proof(c, "var a from 3 to 3;row r:a=3;max a;", "-1 0 0 | -3");
        // All of forty multipliers can be above 0: even rows count both ways.
        String forty = "set s=1..8;set t=1..12;var v[s]from 0 to 0;row r[i in t]:0=0;";
        String rows = "0 ".repeat(12);
        proof(c, forty + "min sum{i in s}v[i];", rows + "1 ".repeat(8) + "0 ".repeat(8) + "| 0");
        proof(c, forty + "max sum{i in s}v[i];", rows + "0 ".repeat(8) + "1 ".repeat(8) + "| 0");
        proof(c, "var a from 0 to 9;row r:a<=0;row q:a>=0;row p:a=0;min a;", "0 1 0 0 0 | 0");
    }

    private static void needs(Checks c) {
        OptimaWorks x = Checks.reading("var a from 0 to 9;var b from 0 to 9;row p:a<=1 or b<=1;row r:a>=2;row q:a<=3 or b<=3;row s:b<=4;min a-b;");
        c.same("prove()", x.prove(), 2);
        int[][] due = {{1, 1, 0}, {1, 3, 0}, {0, 0, 1}, {0, 1, 1}, {0, 0, 2}, {0, 1, 2}};
        for (int i = 0; i < due.length; i++) {
            for (int what = 0; what < 3; what++) {
                c.same("need(" + i + ", " + what + ")", x.need(i, what), due[i][what]);
            }
        }
        c.same("need(6, 0)", x.need(6, 0), NONE);
        c.same("need(-1, 0)", x.need(-1, 0), NONE);
        c.same("need(0, 3)", x.need(0, 3), NONE);
        c.same("need(0, -1)", x.need(0, -1), NONE);
        c.badIndex("multiplier(6)", () -> x.multiplier(6));
        c.badIndex("multiplier(NONE - 1)", () -> x.multiplier(NONE - 1));
        c.same("prove() again", x.prove(), 2);
    }

    private static void states(Checks c) {
        OptimaWorks x = Checks.reading("var a from 0 to 9;min a;");
        c.same("need(0, 1) ahead of prove()", x.need(0, 1), NONE);
        c.badState("multiplier(0) ahead of prove()", () -> x.multiplier(0));
        c.badState("multiplier(9) ahead of prove()", () -> x.multiplier(9));
        c.same("prove()", x.prove(), 1);
        c.badState("prove() makes no answer", () -> x.value(0));
        x.solve(false);
        c.same("solve() leaves the proof", x.need(0, 0), 1);
        x.read();
        c.same("need(0, 0) behind read()", x.need(0, 0), NONE);
        c.badState("multiplier(NONE) behind read()", () -> x.multiplier(NONE));
        x.prove();
        Checks.tell(x, "?");
        c.badArgument("read()", () -> x.read());
        c.same("need(0, 0) behind a fault", x.need(0, 0), NONE);
        c.badState("multiplier(0) behind a fault", () -> x.multiplier(0));
        c.badState("prove() behind a fault", () -> x.prove());
    }
}
