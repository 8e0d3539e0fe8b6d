/** Promises 5 and 6: read and fault; each fault that the document names, with its place. */
public final class FaultTest {
    private static final Checks C = new Checks("FaultTest");
    private static final Texts T = new Texts(C);

    public static void main(String[] args) {
        words();
        noWords();
        unknown();
        much();
        had();
        doing();
        great();
        many();
        steps();
        orders();
        models();
        C.finish();
    }

    private static void fault(int kind, String marked) {
        T.fault(kind, marked);
    }

    private static void fine(String text, int variables) {
        T.fine(text, variables);
    }

    private static void words() {
        fine("", 0);
        fine(" \t\r\n# remark ; ? \377\n", 0);
        fine("# remark without an end ?", 0);
        fine("set a=1..1;#x\nvar#y;\nb#\n[a]from 0to 1;", 1);
        fine("set a=-5..-3;param p=1;var b whole from-1 to 1;", 1);
        fault(1, "^a");
        fault(1, "^;");
        fault(1, "set");
        fault(1, "set   ");
        fault(1, "set a");
        fault(1, "set a=1..2");
        fault(1, "set ^set=1..2;");
        fault(1, "set ^1=1..2;");
        fault(1, "set a^:1..2;");
        fault(1, "set a=1^,2;");
        fault(1, "set a=^+1..2;");
        fault(1, "set a=-^-1..2;");
        fault(1, "set a=1..2^,");
        fault(1, "set a=1..2;param p[a]=1^;");
        fault(1, "set a=1..2;param p[a]=1,2^,3;");
        fault(1, "set a=1..2;param p[a,a]=1,2,3^;");
        fault(1, "set a=1..2;param p[a,a^,a]=1;");
        fault(1, "param p=^;");
        fault(1, "param p=1+^;");
        fault(1, "param p=1 ^2;");
        fault(1, "param p=2*(1+3^;");
        fault(1, "param p=1;param q=p^[1];");
        fault(1, "set a=1..2;param p[a]=1,2;param q=p^;");
        fault(1, "set a=1..2;param p[a]=1,2;param q=p[1^,1];");
        fault(1, "set a=1..2;param p[a,a]=1,2,3,4;param q=p[1^];");
        fault(1, "var x ^to 1;");
        fault(1, "var x whole ^whole from 0 to 1;");
        fault(1, "var x from 0^;");
        fault(1, "var x from 0 to 1;row r:x^<1;");
        fault(1, "var x from 0 to 1;row r:x^;");
        fault(1, "var x from 0 to 1;row r ^x<=1;");
        fault(1, "var x from 0 to 1;row r:x<=1 or x<=2 or x<=3 ^or x<=4;");
        fault(1, "var x from 0 to 1;row r:x<=1^<=2;");
        fault(1, "var x from 0 to 1;row r if 1<2 or^:x<=1;");
        fault(1, "var x from 0 to 1;row r if 1^:x<=1;");
        fault(1, "var x from 0 to 1;row r if (1^<2):x<=1;");
        fault(1, "var x from 0 to 1;row r if {1<2^:x<=1;");
        fault(1, "set a=1..2;var x from 0 to 1;row r[i in a,j in a^,k in a]:x<=1;");
        fault(1, "set a=1..2;param p=sum^(i in a)i;");
        fault(1, "set a=1..2;param p=sum{i ^a}i;");
        fault(1, "set a=1..2;param p=sum{i in a^;");
        fault(1, "set a=1..2;param p=sum{i in a}^;");
        fault(1, "set a=1..2;param p=sum{i in a}^+1;");
        fault(1, "var x whole from 0 to 1;different ^;");
        fault(1, "var x whole from 0 to 1;different x,^;");
        fault(1, "var x whole from 0 to 1;different x,x,x,x,x,x,x,x^,x;");
        fine("var x whole from 0 to 1;different x,x,x,x,x,x,x,x;", 1);
        fault(1, "min ^;");
        fault(1, "max 1^,2;");
    }

    private static void noWords() {
        fault(2, "^?");
        fault(2, "^?@");
        fault(2, "set a=1^.2;");
        fault(2, "set a=1..^.2;");
        fault(2, "set ^abcdefghi=1..2;");
        fine("set abcdefgh=1..2;", 0);
        fine("set a2345678=1..2;", 0);
        fine("set AZaz09=1..2;set Zz=1..2;set AZaz0=1..2;param p[AZaz09]=1,2;", 0);
        fault(2, "set ^a23456789=1..2;");
        fault(2, "^different1 x;");
        fault(2, "set a=^1234567..2;");
        fine("set a=999999..999999;", 0);
        fine("set a=000001..2;", 0);
        fault(2, "param p=1^\2002;");
        fault(2, "param p=1^!;");
        fault(2, "param ^\377;");
        fault(2, "param p=^\0;");
    }

    private static void unknown() {
        fault(3, "param p=^q;");
        fault(3, "param p=^p;");
        fault(3, "set a=1..2;param p=^a;");
        fault(3, "param p=1;param q[^p]=1;");
        fault(3, "set a=1..2;param q[a,^b]=1;");
        fault(3, "var x from 0 to 1;row r:^r<=1;");
        fault(3, "var x from 0 to 1;row r:x<=1;row s:^r<=1;");
        fault(3, "set a=1..2;param p=sum{i in ^p}i;");
        fault(3, "set a=1..2;param p=sum{i in ^i}i;");
        fault(3, "set a=1..2;param p=sum{i in a}i+^i;");
        fault(3, "var x from 0 to 1;different ^x;");
        fault(3, "var x whole from 0 to 1;var y from 0 to 1;different x,^y;");
        fault(3, "different ^x;");
        fault(3, "min ^x;");
        fault(3, "param p=1;min ^P;");
    }

    private static void much() {
        StringBuilder names = new StringBuilder();
        for (int i = 0; i < 40; i++) {
            names.append("set s").append(i).append("=0..0;");
        }
        fine(names.toString(), 0);
        fault(4, names + "set ^t=1..2;");
        fault(4, names + "row ^t:1<=2;");
        fault(10, names + "set ^s7=1..2;");
        fault(2, names + "set ^abcdefghi=1..2;");
        fine(names + "min 1;", 0);
        fault(4, "set a=2..^1;");
        fault(4, "set a=1..^13;");
        fine("set a=1..12;", 0);
        fault(4, "set a=5..^-5;");
        fine("set a=-6..5;", 0);
        fault(4, "set a=-6..^6");
        fault(4, "min 1;max 2;min 3;^max 4;");
        fault(4, "min 1;max 2;min 3;^min ?");
        String var = "var x whole from 0 to 1;";
        fine(var + "different x;".repeat(8), 1);
        fault(4, var + "different x;".repeat(8) + "^different x;");
        deep();
    }

    private static void deep() {
        // Each bracket is a FACTOR with a LINEAR in it: the twelfth number's FACTOR is within 25.
        fine("param p=" + "(".repeat(11) + "1" + ")".repeat(11) + ";", 0);
        fault(4, "param p=" + "(".repeat(12) + "^1" + ")".repeat(12) + ";");
        fault(1, "param p=" + "(".repeat(12) + "^)" + ")".repeat(12) + ";");
        fault(3, "param p=" + "(".repeat(12) + "^q" + ")".repeat(12) + ";");
        fault(2, "param p=" + "(".repeat(12) + "^?" + ")".repeat(12) + ";");
        fault(1, "param p=" + "(".repeat(12) + "^{");
        fault(1, "param p=" + "(".repeat(12) + "^not");
        fault(4, "param q=1;param p=" + "(".repeat(12) + "^q");
        fault(4, "set a=1..2;row r[i in a]:" + "(".repeat(12) + "^i");
        fault(4, "param p=" + "(".repeat(12) + "^sum");
        fault(1, "row r if " + "{".repeat(25) + "^<");
        fault(3, "row r if " + "{".repeat(25) + "^q");
        fault(4, "param p=" + "(".repeat(12) + "^(");
        fine("param p=" + "-".repeat(23) + "1;", 0);
        fault(4, "param p=" + "-".repeat(24) + "^1;");
        fault(4, "param p=" + "-".repeat(24) + "^-1;");
        String row = "row r if ";
        fine(row + "not ".repeat(22) + "1<2:1<=2;", 0);
        fault(4, row + "not ".repeat(23) + "^1<2:1<=2;");
        fault(4, row + "not ".repeat(24) + "^1<2:1<=2;");
        fault(4, row + "not ".repeat(24) + "^not 1<2:1<=2;");
        fault(1, row + "not ".repeat(24) + "^:1<=2;");
        fine(row + "{".repeat(22) + "1<2" + "}".repeat(22) + ":1<=2;", 0);
        fault(4, row + "{".repeat(23) + "^1<2" + "}".repeat(23) + ":1<=2;");
        fault(4, row + "{".repeat(25) + "^{1<2");
        fault(4, row + "{".repeat(25) + "^not 1<2");
        String nested = "(".repeat(11) + "1" + ")".repeat(11);
        fine("param p=" + nested + "+" + nested + "*" + nested + ";", 0);
    }

    private static void had() {
        fault(10, "set a=1..2;set ^a=1..2;");
        fault(10, "set a=1..2;param ^a=1;");
        fault(10, "row r:1<=2;var ^r from 0 to 1;");
        fault(10, "set a=1..2;param p=sum{^a in a}1;");
        fault(10, "set a=1..2;param p=sum{^p in a}1;");
        fault(10, "set a=1..2;row r[^r in a]:1<=2;");
        fault(10, "set a=1..2;row r[i in a,^i in a]:1<=2;");
        fault(10, "set a=1..2;row r[i in a]:sum{^i in a}i<=2;");
        fault(10, "set a=1..2;param p=sum{i in a}sum{j in a,^i in a}1;");
        fine("set a=1..2;param p=sum{i in a}i+sum{i in a}i;row i:1<=2;", 0);
        fine("set a=1..2;min sum{i in a}i;", 0);
        fine("set a=1..2;param p=sum{i in a,j in a}i;row r[j in a,i in a]:i<=j;min sum{i in a}i;", 0);
        fault(3, "set a=1..2;param p=sum{i in a}i;min ^i;");
    }

    private static void doing() {
        String x = "var x from 0 to 1;var y from 0 to 1;set a=1..3;param p[a]=1,2,3;";
        fault(5, x + "min x^*y;");
        fault(5, x + "min 2*x^*y;");
        fault(5, x + "min 1^/x;");
        fault(5, x + "min x^/(y+1);");
        fine(x + "min (x-x)*y+x*(y-y);", 2);
        fault(6, x + "min 1^/0;");
        fault(6, x + "min x^/(1-1);");
        fault(6, x + "min 1^/(x-x);");
        fault(6, "param p=6/2^/(3-3)*7;");
        fault(7, x + "param q=^x;");
        fault(7, x + "param q=^1+x;");
        fine(x + "param q=x-x;", 2);
        fault(7, x + "var z from ^x to 1;");
        fault(7, x + "var z from 0 to ^y;");
        fault(7, x + "row r:p[^x]<=1;");
        fault(7, x + "row r if ^x<1:x<=1;");
        fault(7, x + "row r if 1<^x:x<=1;");
        fault(7, x + "min sum{i in a if i>^x}1;");
        fault(8, x + "min p[^0];");
        fault(8, x + "min p[^4];");
        fault(8, x + "min p[^1/2];");
        fault(8, x + "min p[1]+p[^9-9];");
        fault(8, x + "row r[i in a]:p[^i+1]<=9;");
        fault(8, x + "param d[a,a]=1,2,3,4,5,6,7,8,9;min d[1,^4];");
        fault(8, x + "param d[a,a]=1,2,3,4,5,6,7,8,9;min d[^0,1/0];");
        fault(6, x + "min p[1^/0];");
    }

    private static void great() {
        fine("param p=999999+1;", 0);
        fault(9, "param p=999999^+2;");
        fault(9, "param p=-999999^-2;");
        fault(9, "param p=1001^*1000;");
        fine("param p=1000*1000;", 0);
        fault(9, "param p=1/1001^/1000;");
        fault(9, "param p=1/1001^+1/1000;");
        fine("param p=1001*(1000/1000);", 0);
        fault(9, "set a=1..2;param p=1+^sum{i in a}600000;");
        fault(9, "set a=1..3;param p=^sum{i in a}(600000*(1-(i-1)*(i-2)));");
        fault(9, "var x from 0 to 1;min x*1000^*1001;");
        fault(9, "var x from ^1/2 to 1;");
        fault(9, "var x from ^-1000 to 1;");
        fault(9, "var x from 0 to ^1000;");
        fault(9, "var x from 1 to ^1-1;");
        fine("var x from -999 to 999;", 1);
        fine("var x from 4/2 to 2;", 1);
        String x = "var x from 0 to 1;var y from 0 to 1;";
        fine(x + "row r:99*x<=99999;", 2);
        fault(9, x + "row r:^100*x<=99999;");
        fault(9, x + "row r:x<=1 or ^x<=100000;");
        fine(x + "row r:100*x<=100000;", 2);
        fine(x + "row r:100*x<=50;", 2);
        fault(9, x + "row r:^x/97+y/89<=1/83;");
        fault(9, x + "row r:^x/999983+y/999979<=1/999961;");
        fault(9, x + "row r:^100*x+y/2<=1;");
        fine(x + "row r:1000<=0-x;", 2);
        fine(x + "row r:999999<=-999999;", 2);
        fine(x + "min 99/98*x+9999/9998;", 2);
        fault(9, x + "min ^100*x;");
        fault(9, x + "min ^x/100;");
        fault(9, x + "min ^0-100*x;");
        fault(9, x + "max ^x+10000;");
        fault(9, x + "max ^x+1/10000;");
    }

    private static void many() {
        String s = "set a=1..8;set b=1..2;set c=1..12;";
        fine(s + "var x[a]from 0 to 1;", 8);
        fault(11, s + "var x[a]from 0 to 1;var ^y from 0 to 1;");
        fault(11, s + "var ^x[a,b]from 0 to 1;");
        fine(s + "row r[i in c]:1<=2;", 0);
        fault(11, s + "row r[i in c]:1<=2;row ^q:1<=2;");
        fine(s + "row r[i in c]:1<=2;row q if 1>2:1<=2;", 0);
        fault(11, s + "row ^r[i in c,j in b]:1<=2;");
        fine("var x whole from 1 to 64;", 1);
        fault(11, "var ^x whole from 1 to 65;");
        fault(11, s + "var x[b]whole from 1 to 8;var ^y whole from 0 to 1;");
        fine(s + "var x[b]whole from 1 to 8;var y whole from 3 to 3;var z from 0 to 9;", 4);
        fault(11, s + "var x[b]whole from 1 to 8;row ^r:1<=2 or 1<=3;");
        fault(11, s + "row ^r[i in a]:1<=2 or 1<=3;");
        fault(11, s + "row r[i in b]:1<=2 or 1<=3 or 1<=4;row ^q[i in b]:1<=2 or 1<=3 or 1<=4;");
        // There being such a row comes ahead of its ways.
        fault(11, s + "row r[i in c]:1<=2;row ^q:1/0<=2;");
        fault(11, s + "var x[b]whole from 1 to 8;row ^r:1/0<=2 or 1<=3;");
        fault(6, s + "row r[i in c]:1<=2;row q if 1^/0>2:1<=2;");
    }

    private static void steps() {
        // 12 * 12 * 12 * 11 members of one step each, 495 times two of the rest, then the right side.
        String s = "set a=1..12;set b=1..11;";
        String left = "row r:sum{i in a,j in a}sum{k in a,l in b}1" + "+0".repeat(495);
        fine(s + left + "=19008;", 0);
        fine(s + left + "=-19008;", 0);
        fault(11, s + "^" + left + "=--19008;");
        fault(11, s + "^" + left + "=0+19008;");
        // A step is told ahead of what it would be: here a division by 0.
        fault(6, s + left.replace("1+0", "1") + "=1^/0;");
        fault(11, s + "^" + left + "=1/0;");
        fault(11, "set a=1..12;^min sum{i in a,j in a}sum{k in a,l in a}i;");
        // 6 steps for each of 12 * 12 * 12 * 2 members: a name, a place, *, -, a name, a place.
        String p = "set a=1..12;param p[a]=1,1,1,1,1,1,1,1,1,1,1,1;";
        fault(11, p + "set b=1..2;^min sum{i in a,j in a}sum{k in a,l in b}(p[k]*-p[1]);");
        fine(p + "min sum{i in a,j in a}sum{k in a}(p[k]*-p[1])/1728;", 0);
    }

    private static void orders() {
        // A declaration is read up to its ; and then done; the next one is read behind that.
        fault(1, "param p=1/0^:");
        fault(6, "param p=1^/0;param ?");
        fault(6, "param p=1^/0+1/0;");
        fault(9, "var x from ^1000 to 1/0;");
        fault(6, "var x from 0 to 1^/0;");
        fault(7, "var x from 0 to 1;row r if ^x<1/0:1<=2;");
        fault(6, "row r:1^/0<=1/0;");
        fault(9, "var x from 0 to 1;row r:^100*x<=1 or 1/0<=1;");
        fault(6, "var x from 0 to 1;row r:100*x<=1^/0 or 1<=1;");
        // A truth is worked out as far as it must be.
        fine("row r if 1<2 or 1/0<1:1<=2;", 0);
        fine("row r if 2<1 and 1/0<1:1/0<=2;", 0);
        fault(6, "row r if 1<2 and 1^/0<1:1<=2;");
        fault(6, "row r if 2<1 or 1^/0<1:1<=2;");
        fine("set a=0..3;min sum{i in a if i>0}(6/i);", 0);
        fault(6, "set a=0..3;min sum{i in a}(6^/i);");
        fault(8, "set a=1..2;param p[a]=1,2;min sum{i in a if p[^i+1]>1 or 1/0>1}1;");
    }

    private static void models() {
        OptimaWorks x = Checks.reading("var x from 0 to 1;");
        C.badIndex("one variable", () -> x.variable(1, 0));
        C.same("fault(2)", x.fault(2), OptimaWorks.NONE);
        C.same("fault(-1)", x.fault(-1), OptimaWorks.NONE);
        Checks.tell(x, "x");
        C.badArgument("read()", () -> x.read());
        C.same("fault(2) behind a fault", x.fault(2), OptimaWorks.NONE);
        C.badIndex("the model is gone", () -> x.variable(0, 0));
        C.badState("the model is gone", () -> x.write());
        x.wipe();
        C.same("the fault stays when the tape goes", x.fault(0), 1);
        fine("var x from 0 to 1;var y from 0 to 1;", 2);
    }
}
