/** Promises 5 and 7 to 10: what is read, variable, row, goal, write. */
public final class ModelTest {
    private static final int NONE = OptimaWorks.NONE;

    public static void main(String[] args) {
        Checks c = new Checks("ModelTest");
        variables(c);
        rows(c);
        kept(c);
        goals(c);
        values(c);
        truths(c);
        written(c);
        c.finish();
    }

    private static void variables(Checks c) {
        OptimaWorks x = Checks.reading("set s=-1..0;set t=5..6;param p=3/2;var a from -p*2 to p*4;"
            + "var b[s,t]whole from 1 to 2;var d[t]from 0 to 0;");
        c.same("read() told", x.about(2), 7);
        int[][] due = {{-3, 6, 0}, {1, 2, 1}, {1, 2, 1}, {1, 2, 1}, {1, 2, 1}, {0, 0, 0}, {0, 0, 0}};
        for (int k = 0; k < due.length; k++) {
            for (int what = 0; what < 3; what++) {
                c.same("variable(" + k + ", " + what + ")", x.variable(k, what), due[k][what]);
            }
        }
        c.same("variable(0, 3)", x.variable(0, 3), NONE);
        c.same("variable(0, -1)", x.variable(0, -1), NONE);
        c.badIndex("variable(7, 0)", () -> x.variable(7, 0));
        c.badIndex("variable(-1, 0)", () -> x.variable(-1, 0));
        c.badIndex("variable(7, 9)", () -> x.variable(7, 9));
        // Pairs: those with the first set's first member first.
        x.wipe();
        Checks.tell(x, "set s=-1..0;set t=5..6;var b[s,t]from 1 to 2;row r:b[-1,6]<=b[0,5];");
        x.read();
        c.same("b[-1,6]", x.row(0, 0, 1), 1);
        c.same("b[0,5]", x.row(0, 0, 2), -1);
    }

    private static void rows(Checks c) {
        OptimaWorks x = Checks.reading("set s=1..3;var a[s]from 0 to 9;"
            + "row r[i in s,j in s]if i<j:a[i]-2*a[j]>=i*j;row q:a[1]<=5 or a[2]=6 or 3*a[3]>=1/2;row z if 1>2:a[1]=0;");
        c.same("rows", x.about(3), 4);
        int[][] pairs = {{1, 2}, {1, 3}, {2, 3}};
        for (int r = 0; r < 3; r++) {
            for (int k = 0; k < 3; k++) {
                int due = k + 1 == pairs[r][0] ? 1 : k + 1 == pairs[r][1] ? -2 : 0;
                c.same("row(" + r + ", 0, " + k + ")", x.row(r, 0, k), due);
            }
            c.same("right side of " + r, x.row(r, 0, NONE), pairs[r][0] * pairs[r][1]);
            c.same("sign of " + r, x.row(r, 0, NONE - 1), 1);
            c.same("ways of " + r, x.row(r, 77, NONE - 2), 1);
        }
        c.same("ways of the last", x.row(3, -5, NONE - 2), 3);
        c.same("sign 0", x.row(3, 0, NONE - 1), 0);
        c.same("sign 1", x.row(3, 1, NONE - 1), 2);
        c.same("sign 2", x.row(3, 2, NONE - 1), 1);
        c.same("number of way 2", x.row(3, 2, 2), 6);
        c.same("right side of way 2", x.row(3, 2, NONE), 1);
        OptimaWorks eight = Checks.reading("set s=1..8;var a[s]from 0 to 9;row r:sum{i in s}((i+10)*a[i])=1 or 7>=a[8];max sum{i in s}(a[i]/i);");
        for (int k = 0; k < 8; k++) {
            c.same("of eight, " + k, eight.row(0, 0, k), k + 11);
            c.same("of eight, way 1, " + k, eight.row(0, 1, k), k == 7 ? -1 : 0);
            c.same("of eight, goal, " + k, eight.goal(0, k, true), k + 1);
        }
        c.same("of eight, sign", eight.row(0, 0, NONE - 1), 2);
        c.same("of eight, right side", eight.row(0, 1, NONE), -7);
        c.badIndex("row(4, 0, 0)", () -> x.row(4, 0, 0));
        c.badIndex("row(-1, 0, 0)", () -> x.row(-1, 0, 0));
        c.badIndex("row(4, 0, NONE - 2)", () -> x.row(4, 0, NONE - 2));
        c.badIndex("row(3, 3, 0)", () -> x.row(3, 3, 0));
        c.badIndex("row(0, 1, NONE)", () -> x.row(0, 1, NONE));
        c.badIndex("row(0, -1, 0)", () -> x.row(0, -1, 0));
        c.badIndex("row(0, 0, 3)", () -> x.row(0, 0, 3));
        c.badIndex("row(0, 0, NONE - 3)", () -> x.row(0, 0, NONE - 3));
    }

    private static void way(Checks c, String told, String due) {
        OptimaWorks x = Checks.reading("var a from 0 to 9;var b from 0 to 9;row r:" + told + ";var d from 0 to 1;");
        String got = x.row(0, 0, 0) + " " + x.row(0, 0, 1) + " " + x.row(0, 0, 2) + " "
            + "<>=".charAt(x.row(0, 0, NONE - 1)) + " " + x.row(0, 0, NONE);
        c.same(told, got, due);
    }

    /** Variables on the left, whole numbers without a common divisor, the sign as it is told. */
    private static void kept(Checks c) {
        way(c, "a<=b", "1 -1 0 < 0");
        way(c, "4*a+6>=2*b", "2 -1 0 > -3");
        way(c, "a/2+b/3<=7/6", "3 2 0 < 7");
        way(c, "-a<=-4", "-1 0 0 < -4");
        way(c, "6>=2*a", "-1 0 0 > -3");
        way(c, "a=a", "0 0 0 = 0");
        way(c, "3<=5", "0 0 0 < 1");
        way(c, "5<=3", "0 0 0 < -1");
        way(c, "0*a>=0-7/3", "0 0 0 > -1");
        way(c, "a/6+b/4=5/9", "6 9 0 = 20");
        way(c, "500*a-250*b<=999000", "2 -1 0 < 3996");
        way(c, "a/999983=b/999983", "1 -1 0 = 0");
        way(c, "99*a<=98*b+99999", "99 -98 0 < 99999");
        way(c, "a/3=1/99", "33 0 0 = 1");
        way(c, "b/1000=999/10", "0 1 0 = 99900");
    }

    private static void goals(Checks c) {
        OptimaWorks x = Checks.reading("var a from 0 to 9;var b from 0 to 9;max 6/4*a-5/3;min 7;min -b+a-a;var d from 0 to 1;");
        c.same("goal 0, a", x.goal(0, 0, false), 3);
        c.same("goal 0, a, under", x.goal(0, 0, true), 2);
        c.same("goal 0, b", x.goal(0, 1, false), 0);
        c.same("goal 0, b, under", x.goal(0, 1, true), 1);
        c.same("goal 0, d", x.goal(0, 2, false), 0);
        c.same("goal 0, d, under", x.goal(0, 2, true), 1);
        c.same("goal 0, alone", x.goal(0, NONE, false), -5);
        c.same("goal 0, alone, under", x.goal(0, NONE, true), 3);
        c.same("goal 0, max", x.goal(0, NONE - 1, false), 1);
        c.same("goal 1, max", x.goal(1, NONE - 1, true), 0);
        c.same("goal 1, alone", x.goal(1, NONE, false), 7);
        c.same("goal 2, b", x.goal(2, 1, false), -1);
        c.same("goal 2, a, under", x.goal(2, 0, true), 1);
        c.badIndex("goal(3, 0, false)", () -> x.goal(3, 0, false));
        c.badIndex("goal(-1, 0, false)", () -> x.goal(-1, 0, false));
        c.badIndex("goal(0, 3, false)", () -> x.goal(0, 3, false));
        c.badIndex("goal(0, NONE - 2, true)", () -> x.goal(0, NONE - 2, true));
    }

    private static void value(Checks c, String told, String due) {
        OptimaWorks x = Checks.reading("set s=1..3;set t=0..1;param p[s]=2,3,5;param q[s,t]=1,2,3,4,5,6;min " + told + ";");
        String got = x.goal(0, NONE, false) + "/" + x.goal(0, NONE, true);
        c.same(told, got, due);
    }

    private static void values(Checks c) {
        value(c, "1+2*3", "7/1");
        value(c, "8/4/2", "1/1");
        value(c, "8/4*2", "4/1");
        value(c, "2-3-4", "-5/1");
        value(c, "-2*-3", "6/1");
        value(c, "--2", "2/1");
        value(c, "-(1-3)/4", "1/2");
        value(c, "6/-4", "-3/2");
        value(c, "sum{i in s}i*10", "60/1");
        value(c, "sum{i in s}(i*10+1)", "63/1");
        value(c, "sum{i in s}p[i]", "10/1");
        value(c, "sum{i in s,j in t}q[i,j]", "21/1");
        value(c, "q[2,0]", "3/1");
        value(c, "q[1,1]", "2/1");
        value(c, "p[q[1,0]+1]", "3/1");
        value(c, "sum{i in s if i<>2}p[i]", "7/1");
        value(c, "sum{i in s,j in s if i<j}(p[i]*p[j])", "31/1");
        value(c, "sum{i in s if i>5}1", "0/1");
        value(c, "sum{i in s}sum{j in s if j>=i}-j", "-14/1");
        value(c, "sum{i in s}(1/i)", "11/6");
        value(c, "0/5", "0/1");
    }

    private static void truth(Checks c, String told, boolean due) {
        OptimaWorks x = Checks.reading("row r if " + told + ":0<=1;");
        c.same(told, x.about(3), due ? 1 : 0);
    }

    private static void truths(Checks c) {
        truth(c, "1<=1", true);
        truth(c, "1<1", false);
        truth(c, "1>=1", true);
        truth(c, "1>1", false);
        truth(c, "1=1", true);
        truth(c, "1<>1", false);
        truth(c, "2<=1", false);
        truth(c, "1>=2", false);
        truth(c, "1<2", true);
        truth(c, "2>1", true);
        truth(c, "2=1", false);
        truth(c, "2<>1", true);
        truth(c, "1/3<2/5", true);
        truth(c, "-1/3<-2/5", false);
        truth(c, "2/4=1/2", true);
        truth(c, "not 1=1", false);
        truth(c, "not not 1=1", true);
        truth(c, "1=1 or 1=2 and 1=2", true);
        truth(c, "{1=1 or 1=2}and 1=2", false);
        truth(c, "not 1=2 and 1=1", true);
        truth(c, "not {1=2 or 1=1}", false);
        truth(c, "1=2 or 1=3 or 1=1", true);
        truth(c, "1=1 and 2=2 and 3=4", false);
    }

    private static void text(Checks c, String told, String due) {
        OptimaWorks x = Checks.reading(told);
        c.output("write() of " + told, x, x.write(), due);
        // What is written is a text of the same model.
        if (due.length() <= 4000) {
            OptimaWorks again = Checks.reading(due);
            c.output("write() of what was written", again, again.write(), due);
        }
    }

    private static void written(Checks c) {
        text(c, "", "");
        text(c, "var a whole from -3 to -1;var b from 0 to 5;", "var x0 whole from -3 to -1 ;\nvar x1 from 0 to 5 ;\n");
        text(c, "var a from 0 to 5;var b from 0 to 5;row r:2*a-b<=7 or -a+b>=-2 or 1=0;row q:-3*b=-4;row p:0<=0;",
            "var x0 from 0 to 5 ;\nvar x1 from 0 to 5 ;\n"
            + "row r0 : 2 * x0 - x1 <= 7 or - x0 + x1 >= -2 or 0 = -1 ;\nrow r1 : - 3 * x1 = -4 ;\nrow r2 : 0 <= 0 ;\n");
        text(c, "set s=1..2;var z from 0 to 1;var a[s]whole from 0 to 1;var b whole from 0 to 1;different b,a,b;different a;",
            "var x0 from 0 to 1 ;\nvar x1 whole from 0 to 1 ;\nvar x2 whole from 0 to 1 ;\nvar x3 whole from 0 to 1 ;\n"
            + "different x1 , x2 , x3 ;\ndifferent x1 , x2 ;\n");
        String vars = "var x0 from 0 to 5 ;\nvar x1 from 0 to 5 ;\n";
        String told = "var a from 0 to 5;var b from 0 to 5;";
        text(c, told + "min 3/2*a-b+5;", vars + "min 3/2 * x0 - x1 + 5 ;\n");
        text(c, told + "max -a/2-1/3*b-5/7;", vars + "max - 1/2 * x0 - 1/3 * x1 - 5/7 ;\n");
        text(c, told + "min a;max -b;min 0;", vars + "min x0 ;\nmax - x1 ;\nmin 0 ;\n");
        text(c, told + "min -7/2;max 4;", vars + "min -7/2 ;\nmax 4 ;\n");
        text(c, "var a from -999 to 999;row r:99*a<=-12345;row q:a=70605;max 98/97*a-9876/5;",
            "var x0 from -999 to 999 ;\nrow r0 : 33 * x0 <= -4115 ;\nrow r1 : x0 = 70605 ;\nmax 98/97 * x0 - 9876/5 ;\n");
        OptimaWorks x = Checks.reading("var a from 0 to 1;");
        x.wipe();
        c.same("the model stays when the tape goes", x.write(), 21);
        x.read();
        c.same("write() of nothing", x.write(), 0);
        c.same("letter(0) of nothing", x.letter(0), NONE);
        Checks.tell(x, "?");
        c.badArgument("read()", () -> x.read());
        c.badState("write() behind a fault", () -> x.write());
    }
}
