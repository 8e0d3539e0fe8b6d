/** The edges of doing declarations: faults 5 to 9 and 11, ways as KEPT, a sentence of the document at a time. */
public final class DoingEdgesTest {
    private static final int NONE = OptimaWorks.NONE;
    private static final Checks C = new Checks("DoingEdgesTest");
    private static final Texts T = new Texts(C);
    private static final String XY = "var x from 0 to 1;var y from 0 to 1;";
    private static final String PQ = "set a=1..3;set b=0..1;param p[a]=1,2,3;param q[a,b]=1,2,3,4,5,6;";

    public static void main(String[] args) {
        readThenDone();
        order();
        truthsAsFar();
        values();
        notLinear();
        nought();
        noNumber();
        noMember();
        greatValues();
        greatSums();
        greatEnds();
        greatWays();
        greatGoals();
        manyVariables();
        manyRows();
        manyCases();
        steps();
        stepsOfEach();
        stepsOfTruths();
        stepsFirst();
        kept();
        cases();
        C.finish();
    }

    private static void readThenDone() {
        C.sentence("A declaration is read up to its ; and then done, its parts in the order of the text");
        T.fault(1, "param p=1/0^:");
        T.fault(3, "param p=1/0+^z;");
        T.fault(2, "param p=1/0 ^?");
        T.fault(1, "param p=1/0");
        T.fault(6, "param p=1^/0;?");
        T.fault(6, "param p=1^/0;set set");
        T.fault(6, "param p=1^/0+2/0;");
        T.fault(6, "set a=1..2;param p[a]=1^/0,2/0;");
        T.fault(6, "set a=1..2;param p[a]=1,2^/0;");
        T.fault(7, XY + "set a=1..2;param p[a]=^x,2/0;");
        T.fault(6, "row r:1<=2;min 1^/0;min 1/0;");
    }

    private static void order() {
        C.sentence("(of a var: from, then to, then variable by variable;");
        T.fault(6, "var z from 1^/0 to 1/0;");
        T.fault(9, "var z from ^1/2 to 1/0;");
        T.fault(9, "var z from ^1000 to 1/0;");
        T.fault(7, XY + "var z from ^x to 1/0;");
        T.fault(6, "var z from 0 to 1^/0;");
        T.fault(9, "set a=1..9;var z[a]from 0 to ^1000;");
        T.fault(6, "set a=1..9;var z[a]from 0 to 1^/0;");
        C.sentence("of a row, member by member: the TRUTH, then that there is such a row, then its ways;");
        String twelve = "set c=1..12;row r[i in c]:0<=1;";
        T.fault(6, twelve + "row q if 1^/0>1:1/0<=1;");
        T.fault(11, twelve + "row ^q if 1>0:1/0<=1;");
        T.fine(twelve + "row q if 1>1:1/0<=1;", 0);
        T.fault(6, "set c=1..12;row r[i in c]:1^/(i-12)<=1;");
        T.fault(11, "set c=1..12;row z:0<=1;row ^r[i in c]:1/(i-12)<=1;");
        T.fault(6, "set c=1..12;row z:0<=1;row r[i in c]:1^/(i-11)<=1;");
        T.fault(6, "set c=1..12;row z:0<=1;row r[i in c]if 1^/(i-12)<1:0<=1;");
        T.fault(11, "var z whole from 1 to 64;row ^r:1/0<=1 or 0<=1;");
        T.fault(6, "var z whole from 1 to 64;row r if 1^/0<1:1/0<=1 or 0<=1;");
        T.fault(6, "set c=1..12;row r[i in c]:1^/(i-6)<=1 or 0<=1;");
        T.fault(11, "set c=1..12;row ^r[i in c]:1/(i-7)<=1 or 0<=1;");
        T.fault(6, "set c=1..2;row r[i in c]:1^/(i-2)<=1;");
        C.sentence("of a WAY: left, right, then KEPT;");
        T.fault(6, XY + "row r:1^/0<=2/0;");
        T.fault(6, XY + "row r:100*x<=2^/0;");
        T.fault(9, XY + "row r:^100*x<=1 or 1/0<=1;");
        T.fault(6, XY + "row r:99*x<=2 or 1^/0<=1;");
        C.sentence("of a sum: for each member its TRUTH, then its FACTOR;");
        T.fault(6, "set a=1..2;min sum{i in a if 1^/(i-1)>1}(1/0);");
        T.fault(6, "set a=1..2;min sum{i in a if i>0}(1^/(i-1));");
        T.fault(6, "set a=1..2;min sum{i in a if 1/(i-2)<1}(1^/(i-1));");
        T.fault(6, "set a=1..2;min sum{i in a if 1^/(i-2)<1}(1/i);");
        T.fine("set a=1..2;min sum{i in a if i>2}(1/0);", 0);
    }

    private static void truthsAsFar() {
        C.sentence("a TRUTH is worked out as far as it must be, from the left)");
        String bad = "1/0=1";
        String marked = "1^/0=1";
        T.fine("row r if 1=1 or " + bad + ":0<=1;", 0);
        T.fault(6, "row r if 1=2 or " + marked + ":0<=1;");
        T.fine("row r if 1=2 and " + bad + ":0<=1;", 0);
        T.fault(6, "row r if 1=1 and " + marked + ":0<=1;");
        T.fault(6, "row r if " + marked + " or 1=1:0<=1;");
        T.fault(6, "row r if " + marked + " and 1=2:0<=1;");
        T.fine("row r if 1=2 and " + bad + " or 1=1 or " + bad + ":0<=1;", 0);
        T.fine("row r if not{1=1 or " + bad + "}:0<=1;", 0);
        T.fine("row r if not{1=2 and " + bad + "}or " + bad + ":0<=1;", 0);
        T.fault(6, "row r if not{1=1 or " + bad + "}or " + marked + ":0<=1;");
        // A comparison is worked out whole, its left side first.
        T.fault(6, "row r if 1^/0=2/0:0<=1;");
        T.fault(6, "row r if 1=2^/0:0<=1;");
        T.fault(7, XY + "row r if ^x=2/0:0<=1;");
    }

    private static void values() {
        C.sentence("A VALUE is linear: a number, and a number for each variable.");
        OptimaWorks x = Checks.reading(XY + "min 3*(x-2*y+1/2)-(y-x)/2+4;var z from 0 to 1;");
        int[][] due = {{7, 2}, {-13, 2}, {0, 1}};
        for (int k = 0; k < due.length; k++) {
            C.same("variable " + k, x.goal(0, k, false), due[k][0]);
            C.same("variable " + k + ", under", x.goal(0, k, true), due[k][1]);
        }
        C.same("alone", x.goal(0, NONE, false), 11);
        C.same("alone, under", x.goal(0, NONE, true), 2);
        String eight = "set s=1..8;var v[s]from 0 to 1;min ";
        OptimaWorks y = Checks.reading(eight + "sum{i in s}(v[i]*i)-sum{i in s if i>4}(2*i*v[i]);");
        for (int k = 0; k < 8; k++) {
            C.same("variable " + k + " of eight", y.goal(0, k, false), k < 4 ? k + 1 : -k - 1);
        }
    }

    private static void notLinear() {
        C.sentence("5 NOT LINEAR: a product of two that have variables, a quotient by one (at the sign * or /).");
        T.edge(XY + "min 2*x;", 5, XY + "min x^*x;");
        T.edge(XY + "min x*2;", 5, XY + "min x^*y;");
        T.edge(XY + "min 2*x*3;", 5, XY + "min 2*x^*y*3;");
        T.edge(XY + "min (x+1)*(y-y+1);", 5, XY + "min (x+1)^*(y+1);");
        T.edge(XY + "min x/2;", 5, XY + "min 2^/x;");
        T.edge(XY + "min x/(1+y-y);", 5, XY + "min x^/(1+y);");
        T.fault(5, XY + "min 0^/x;");
        T.fault(5, XY + "min 0*(x^*y);");
        T.fault(5, XY + "min x*2^/y;");
        T.fault(5, XY + "param p=x^*y;");
        T.fault(5, XY + "row r:x^*y<=1;");
        T.fine(XY + "min 0*x*y;", 2);
        T.fine(XY + "min (x-x)*y;", 2);
        T.fault(5, XY + "min (x-y)^*y;");
    }

    private static void nought() {
        C.sentence("6 NOUGHT: a quotient by 0 (at the /).");
        T.edge("min 1/1;", 6, "min 1^/0;");
        T.edge("min 0/1;", 6, "min 0^/0;");
        T.edge("min 1/(2-1);", 6, "min 1^/(2-2);");
        T.edge("min 8/2/2;", 6, "min 8/2^/0/2;");
        T.fault(6, "min 1^/-0;");
        T.fault(6, XY + "min x^/0;");
        T.fault(6, XY + "min 1^/(x-x);");
        T.fault(6, "set b=0..1;min sum{i in b}(1^/i);");
        T.fine("set b=1..2;min sum{i in b}(1/i);", 0);
        T.fault(6, "param p=0;min 1^/p;");
    }

    private static void noNumber() {
        C.sentence("7 NO NUMBER: variables where a number must stand: a param's LINEAR, from, to, places, LINEARs of a TRUTH (at its first word).");
        String s = XY + PQ;
        T.edge(s + "param r=1+x-x;", 7, s + "param r=^1+x;");
        T.edge(s + "param r[b]=1,2;", 7, s + "param r[b]=1,^2+x;");
        T.edge(s + "var z from 0*x to 1;", 7, s + "var z from ^0+x to 1;");
        T.edge(s + "var z from 0 to 1+0*x;", 7, s + "var z from 0 to ^1+x;");
        T.edge(s + "min p[1+x-x];", 7, s + "min p[^1+x];");
        T.edge(s + "min q[1,x-x];", 7, s + "min q[1,^(x)];");
        T.edge(s + "min q[1+x-x,1];", 7, s + "min q[^1-x,1];");
        T.edge(s + "row r if x-x<1:0<=1;", 7, s + "row r if ^x<1:0<=1;");
        T.edge(s + "row r if 1<1+x-x:0<=1;", 7, s + "row r if 1<^1+x:0<=1;");
        T.edge(s + "min sum{i in a if i<1+x-x}1;", 7, s + "min sum{i in a if i<^1+x}1;");
        T.fault(7, s + "row r if not{1=2 or 2>^-x}:0<=1;");
        T.fault(7, s + "set c=1..2;var v[c]from 0 to 1;min v[^x];");
        T.fault(7, s + "min q[^x,9];");
        T.fine(s + "row r:x<=y;min x+y;", 2);
    }

    private static void noMember() {
        C.sentence("8 NO MEMBER: a place that is no member of its set (at its LINEAR's first word).");
        String s = PQ + "var v[a]from 0 to 1;var w[b,b]from 0 to 1;";
        T.edge(s + "min p[1];", 8, s + "min p[^0];");
        T.edge(s + "min p[3];", 8, s + "min p[^4];");
        T.edge(s + "min p[6/2];", 8, s + "min p[^5/2];");
        T.edge(s + "min p[2/1];", 8, s + "min p[^-1];");
        T.edge(s + "min q[1,0];", 8, s + "min q[^0,0];");
        T.edge(s + "min q[3,1];", 8, s + "min q[^4,1];");
        T.edge(s + "min q[1,1];", 8, s + "min q[1,^2];");
        T.edge(s + "min q[3,0];", 8, s + "min q[3,^-1];");
        T.fault(8, s + "min q[3,^1/2];");
        T.edge(s + "min v[1]+v[3];", 8, s + "min v[1]+v[^4];");
        T.fault(8, s + "min v[^0];");
        T.edge(s + "min w[0,0]+w[1,1];", 8, s + "min w[0,^2];");
        T.fault(8, s + "min w[^2,0];");
        T.fault(8, s + "min w[^-1,9];");
        T.fault(8, s + "min w[0,^-1];");
        T.fault(8, s + "min p[^1000*1000];");
        T.fault(8, s + "min p[^-1000*1000];");
        // The first of two places is looked at ahead of the second.
        T.fault(8, s + "min q[^0,1/0];");
        T.fault(6, s + "min q[1,1^/0];");
        T.fault(8, s + "row r[i in a]:p[^i+1]<=1;");
        T.fine(s + "row r[i in a]if i<3:p[i+1]<=1;", 7);
    }

    private static void greatValues() {
        C.sentence("9 GREAT: a number in a value whose numerator or denominator, shortened, is above 1000000 (at the sign + - * /, or at sum, that made it;");
        T.edge("param p=999999+1;", 9, "param p=999999^+2;");
        T.edge("param p=-999999-1;", 9, "param p=-999999^-2;");
        T.edge("param p=-999999+-1;", 9, "param p=-999999^+-2;");
        T.edge("param p=999999-(0-1);", 9, "param p=999999^-(0-2);");
        T.edge("param p=1000*1000;", 9, "param p=1000^*1001;");
        T.edge("param p=-1000*1000;", 9, "param p=-1000^*1001;");
        T.edge("param p=1/1000*(1/1000);", 9, "param p=1/1000^*(1/1001);");
        T.edge("param p=1/1000/1000;", 9, "param p=1/1000^/1001;");
        T.edge("param p=1000/(1/1000);", 9, "param p=1000^/(1/1001);");
        T.edge("param p=1000/-(1/1000);", 9, "param p=1000^/-(1/1001);");
        T.edge("param p=1/1000+1/999;", 9, "param p=1/1000^+1/1001;");
        T.edge("param p=1/1000-1/999;", 9, "param p=1/1000^-1/1001;");
        T.fault(9, "param p=1+999999^+2+4;");
        // Shortened: 600000/7 times 7, and 1/1000 + 1/2000 is 3/2000.
        T.fine("param p=600000/7*7;", 0);
        T.fine("param p=999999/1000*1000/999999;", 0);
        T.fine("param p=1/400000+1/800000;", 0);
        T.fine("param p=999999*(2/2);", 0);
        T.fault(9, "param p=999999^*2/2;");
        // Numbers of variables count, too, and all of a value.
        T.edge(XY + "row r:x*1000*1000<=x*1000*1000;", 9, XY + "row r:x*1000^*1001<=1;");
        T.edge(XY + "row r:x/1000/1000<=x/1000/1000;", 9, XY + "row r:x/1000^/1001<=1;");
        T.edge(XY + "row r:999999*y+y<=999999*y+y;", 9, XY + "row r:999999*y^+(2*y)<=1;");
        T.edge(XY + "row r:-999999*y-y<=-999999*y-y;", 9, XY + "row r:-999999*y^-2*y<=1;");
        T.fault(9, XY + "row r:(x+1000*y)^*1001<=1;");
        T.fault(9, XY + "row r:(x+1000)^*1001<=1;");
        T.fault(9, XY + "row r:1001^*(x+1000)<=1;");
        // In a place or a truth as anywhere else.
        T.fault(9, PQ + "min p[1000^*1001];");
        T.fault(9, "row r if 1000^*1001>1:0<=1;");
        T.fine("row r if 1000*1000>999999:0<=1;", 0);
    }

    private static void greatSums() {
        C.sentence("or at sum, that made it; sums are made member by member)");
        T.edge("set a=1..2;param p=sum{i in a}500000;", 9, "set a=1..2;param p=^sum{i in a}500001;");
        T.edge("set a=1..2;param p=-sum{i in a}500000;", 9, "set a=1..2;param p=-^sum{i in a}500001;");
        T.edge("set a=1..2;param p=1*sum{i in a}500000;", 9, "set a=1..2;param p=1*^sum{i in a}500001;");
        T.edge("set a=1..2;param p=sum{i in a}-500000;", 9, "set a=1..2;param p=^sum{i in a}-500001;");
        T.edge("set a=1..2;param p=sum{i in a}(1/(998+i));", 9, "set a=1..2;param p=^sum{i in a}(1/(999+i));");
        // 600000 at the first and the last member, -600000 at the one between: never above.
        T.fine("set a=1..3;param p=sum{i in a}(600000*(1-2*(i-1)*(3-i)));", 0);
        // 600000, 600000, -600000: above at the second member.
        T.fault(9, "set a=1..3;param p=^sum{i in a}(600000*(1-(i-1)*(i-2)));");
        T.fault(9, "set a=1..3;param p=^sum{i in a if i<3}(600000*(1-(i-1)*(i-2)));");
        T.fine("set a=1..3;param p=sum{i in a if i>1}(600000*(1-(i-1)*(i-2)));", 0);
        // The inner sum, the outer one, or a sign within.
        T.fault(9, "set a=1..2;param p=sum{i in a}^sum{j in a}500001;");
        T.fault(9, "set a=1..2;param p=^sum{i in a}sum{j in a}250001;");
        T.fault(9, "set a=1..2;param p=sum{i in a}(999999^+2);");
        T.fault(9, "set a=1..2;param p=1^+sum{i in a}500000;");
        T.edge(XY + "set a=1..2;row r:sum{i in a}(500000*x)<=500000*x*2;", 9, XY + "set a=1..2;row r:^sum{i in a}(500001*x)<=1;");
    }

    private static void greatEnds() {
        C.sentence("from or to no whole number, or not -999 .. 999, or to below from (at its first word, to's);");
        T.edge("var x from -999 to 0;", 9, "var x from ^-1000 to 0;");
        T.edge("var x from 999 to 999;", 9, "var x from ^1000 to 999;");
        T.edge("var x from 0 to 999;", 9, "var x from 0 to ^1000;");
        T.edge("var x from -999 to -999;", 9, "var x from -999 to ^-1000;");
        T.edge("var x from 4/2 to 9;", 9, "var x from ^5/2 to 9;");
        T.edge("var x from 0 to 4/2;", 9, "var x from 0 to ^5/2;");
        T.edge("var x from 3 to 3;", 9, "var x from 3 to ^2;");
        T.edge("var x from -3 to -3;", 9, "var x from -3 to ^-4;");
        T.edge("var x from 0 to 0;", 9, "var x from 0 to ^0-1;");
        T.fault(9, "var x whole from ^1/2 to 1;");
        T.fault(9, "var x from ^(-1)-999 to 1/0;");
        OptimaWorks x = Checks.reading("var x from -999 to 999;");
        C.same("from", x.variable(0, 0), -999);
        C.same("to", x.variable(0, 1), 999);
    }

    private static void greatWays() {
        C.sentence("a WAY that, as it is KEPT, has a number above 99 with a variable, or one above 99999 alone (at its first word);");
        T.edge(XY + "row r:99*x<=1;", 9, XY + "row r:^100*x<=1;");
        T.edge(XY + "row r:-99*x<=1;", 9, XY + "row r:^-100*x<=1;");
        T.edge(XY + "row r:1<=99*x;", 9, XY + "row r:^1<=100*x;");
        T.edge(XY + "row r:x<=99999;", 9, XY + "row r:^x<=100000;");
        T.edge(XY + "row r:x>=-99999;", 9, XY + "row r:^x>=-100000;");
        T.edge(XY + "row r:x+99999=0;", 9, XY + "row r:^x+100000=0;");
        T.edge(XY + "row r:x-99999=0;", 9, XY + "row r:^x-100000=0;");
        T.edge(XY + "row r:99*y+x<=1;", 9, XY + "row r:^x+100*y<=1;");
        T.edge(XY + "row r:99*x>=98*y+99999;", 9, XY + "row r:^100*x>=99*y+99999;");
        // As KEPT: without a common divisor, and whole.
        T.edge(XY + "row r:200*x<=100;", 9, XY + "row r:^200*x<=101;");
        T.edge(XY + "row r:198*x+2*y<=4;", 9, XY + "row r:^199*x+2*y<=4;");
        T.edge(XY + "row r:2*x<=199998;", 9, XY + "row r:^2*x<=200000;");
        T.edge(XY + "row r:x<=1/99;", 9, XY + "row r:^x<=1/100;");
        T.edge(XY + "row r:x/99+y<=1;", 9, XY + "row r:^x/100+y<=1;");
        T.edge(XY + "row r:y/99+x<=1;", 9, XY + "row r:^y/100+x<=1;");
        T.edge(XY + "row r:x/100<=1;", 9, XY + "row r:^x/100+y/3<=1;");
        T.edge(XY + "row r:x/9+y/11<=1;", 9, XY + "row r:^x/9+y/11<=1/13;");
        // What makes the last number whole makes the first one too great, of either sign.
        T.edge(XY + "row r:9*x+y<=1/11;", 9, XY + "row r:^10*x+y<=1/10;");
        T.edge(XY + "row r:-9*x+y<=1/11;", 9, XY + "row r:^-10*x+y<=1/10;");
        T.edge(XY + "row r:x-9*y>=1/11;", 9, XY + "row r:^x-10*y>=1/10;");
        T.edge(XY + "row r:x+9*y>=1/11;", 9, XY + "row r:^x+10*y>=1/10;");
        T.edge(XY + "row r:x/9=1/11;", 9, XY + "row r:^x/9=1/101;");
        T.edge(XY + "row r:20*x+999999<=-999981;", 9, XY + "row r:^20*x+999999<=-999999;");
        // 65536 times 65536, 0 as an int, and 99999 times 99999.
        T.edge(XY + "row r:x/65536<=1/65536;", 9, XY + "row r:^x/65536<=65536;");
        T.edge(XY + "row r:x/65536<=99999/65536;", 9, XY + "row r:^x/65536<=-65536;");
        T.edge(XY + "row r:x/99999<=1;", 9, XY + "row r:^x/99999<=99999;");
        // The difference of two values has a denominator beyond an int.
        T.edge(XY + "row r:1/1000/1000<=1/999999;", 9, XY + "row r:^x+1/1000/1000<=1/999999;");
        T.edge(XY + "row r:x/1000/1000<=x/999999;", 9, XY + "row r:^x/1000/1000+y<=x/999999;");
        // Without variables there is 1, -1 or 0 alone.
        T.fine(XY + "row r:999999<=-999999;row q:0>=1/1000/1000;", 2);
        // Each way by itself.
        T.edge(XY + "row r:x<=1 or 99*x<=1 or x<=1;", 9, XY + "row r:x<=1 or ^100*x<=1 or x<=1;");
        T.fault(9, XY + "row r:x<=1 or x<=1 or ^x<=100000;");
        T.fault(9, XY + "set a=98..100;row r[i in a]:^i*x<=1;");
        T.fine(XY + "set a=98..99;row r[i in a]:i*x<=1;", 2);
    }

    private static void greatGoals() {
        C.sentence("a goal with a number (numerator or denominator) above 99 with a variable, or above 9999 alone (at its first word).");
        String[] goals = {"min ", "max "};
        for (String goal : goals) {
            T.edge(XY + goal + "99*x;", 9, XY + goal + "^100*x;");
            T.edge(XY + goal + "-99*y;", 9, XY + goal + "^-100*y;");
            T.edge(XY + goal + "x/99;", 9, XY + goal + "^x/100;");
            T.edge(XY + goal + "98/99*x;", 9, XY + goal + "^99/100*x;");
            T.edge(XY + goal + "9999;", 9, XY + goal + "^10000;");
            T.edge(XY + goal + "x-9999;", 9, XY + goal + "^x-10000;");
            T.edge(XY + goal + "x+1/9999;", 9, XY + goal + "^x+1/10000;");
            T.edge(XY + goal + "9998/9999;", 9, XY + goal + "^9999/10000;");
            T.edge(XY + goal + "x/98+y/99;", 9, XY + goal + "^x/99+y/100;");
            // Shortened, but not made whole: 200/4 is 50, 150/100 is 3/2.
            T.edge(XY + goal + "200/4*x+150/100*y;", 9, XY + goal + "^200/4*x+151/100*y;");
        }
        T.fault(9, XY + "min x;max ^100*y;");
    }

    private static void manyVariables() {
        C.sentence("11 MANY: a 9th variable, a 13th row (at the declaration's NAME),");
        String s = "set a=1..8;set b=1..2;set c=1..4;set d=1..9;";
        T.edge(s + "var x[a]from 0 to 1;", 11, s + "var ^x[d]from 0 to 1;");
        T.edge(s + "var x[b,c]from 0 to 1;", 11, s + "set e=1..3;var ^x[e,e]from 0 to 1;");
        T.fault(11, s + "var x[a]from 0 to 1;var ^y from 0 to 1;");
        T.fault(11, s + "var x[c]from 0 to 1;var y[b]from 0 to 1;var u from 0 to 1;var v from 0 to 1;var ^w whole from 0 to 0;");
        T.fine(s + "var x[c]from 0 to 1;var y[b]from 0 to 1;var u from 0 to 1;var v whole from 0 to 0;", 8);
    }

    private static void manyRows() {
        C.sentence("11 MANY: a 9th variable, a 13th row (at the declaration's NAME),");
        String s = "set a=1..12;set b=1..3;set c=1..4;";
        T.edge(s + "row r[i in a]:0<=1;", 11, s + "row r[i in a]:0<=1;row ^q:0<=1;");
        T.edge(s + "row r[i in b,j in c]:0<=1;", 11, s + "row ^r[i in c,j in c]:0<=1;");
        T.edge(s + "row r[i in c,j in c]if i<>j:0<=1;", 11, s + "row ^r[i in c,j in c]if i+j<>2 and i+j<>8 and i+j<>20:0<=1;");
        T.edge(s + "row r[i in a]:0<=1;row q if 1>2:0<=1;", 11, s + "row r[i in a]:0<=1;row ^q if 1<2:0<=1;");
        StringBuilder single = new StringBuilder();
        for (int i = 0; i < 12; i++) {
            single.append("row r").append(i).append(":0<=1;");
        }
        T.edge(single.toString(), 11, single + "row ^q:0<=1;");
        C.same("rows", Checks.reading(single.toString()).about(3), 12);
    }

    private static void manyCases() {
        C.sentence("more than 64 CASES (at the NAME of the var or row by which they are so many, behind the former),");
        String s = "set b=1..2;set c=1..3;set f=1..6;set g=1..7;";
        T.edge("var x whole from 1 to 64;", 11, "var ^x whole from 1 to 65;");
        T.edge("var x whole from -32 to 31;", 11, "var ^x whole from -999 to 999;");
        T.edge(s + "var x[b]whole from 1 to 8;", 11, s + "var ^x[b]whole from 0 to 8;");
        T.edge(s + "var x[f]whole from 0 to 1;", 11, s + "var ^x[g]whole from 0 to 1;");
        T.edge(s + "var x[c]whole from 0 to 3;", 11, s + "var ^x[c]whole from 0 to 4;");
        T.edge(s + "var x whole from 1 to 64;var y whole from 5 to 5;", 11, s + "var x whole from 1 to 64;var ^y whole from 5 to 6;");
        T.edge(s + "var x whole from 1 to 64;var y from 5 to 6;", 11, s + "var x whole from 1 to 33;var ^y whole from 5 to 6;");
        T.edge(s + "row r[i in f]:0<=1 or 0<=2;", 11, s + "row ^r[i in g]:0<=1 or 0<=2;");
        T.edge(s + "row r[i in c]:0<=1 or 0<=2 or 0<=3;", 11, s + "row r[i in c]:0<=1 or 0<=2 or 0<=3;row ^q:0<=1 or 0<=2 or 0<=3;");
        T.edge(s + "row r[i in c]:0<=1 or 0<=2 or 0<=3;row q:0<=1 or 0<=2;", 11, s + "row r[i in c]:0<=1 or 0<=2 or 0<=3;row q:0<=1 or 0<=2;row ^z:0<=1 or 0<=2;");
        T.edge(s + "var x whole from 1 to 32;row q:0<=1 or 0<=2;", 11, s + "var x whole from 1 to 33;row ^q:0<=1 or 0<=2;");
        T.edge(s + "row q:0<=1 or 0<=2;var x whole from 1 to 32;", 11, s + "row q:0<=1 or 0<=2;var ^x whole from 1 to 33;");
        T.edge(s + "var x whole from 1 to 64;row q:0<=1;", 11, s + "var x whole from 1 to 64;row ^q:0<=1 or 0<=1;");
        T.fine(s + "var x whole from 1 to 64;row q if 1>2:0<=1 or 0<=1;", 1);
        C.same("about(6) of 64", Checks.reading(s + "var x[c]whole from 0 to 3;").about(6), 64);
    }

    /** A value of 0 that takes so many steps to work out, from 19008 on; sets a and b are of 12 and 11. */
    private static String zero(int steps) {
        int rest = steps - 19008;
        String odd = rest % 2 == 1 ? "+-0" : "";
        return "sum{i in a,j in a}sum{k in a,l in b}0" + odd + "+0".repeat((rest - (odd.isEmpty() ? 0 : 3)) / 2);
    }

    private static final String STEPS = "or 20000 STEPS in one declaration (at its first word;";
    private static final String SETS = "set a=1..12;set b=1..11;";

    private static void steps() {
        C.sentence(STEPS);
        T.edge(SETS + "min " + zero(20000) + ";", 11, SETS + "^min " + zero(20001) + ";");
        T.edge(SETS + "max " + zero(19999) + ";", 11, SETS + "^max " + zero(20002) + ";");
        T.edge(SETS + "param p=" + zero(20000) + ";", 11, SETS + "^param p=" + zero(20001) + ";");
        T.edge(SETS + "var x from " + zero(19999) + " to 1;", 11, SETS + "^var x from " + zero(20000) + " to 1;");
        T.edge(SETS + "var x from 0 to " + zero(19999) + ";", 11, SETS + "^var x from 0 to " + zero(20000) + ";");
        T.edge(SETS + "row r:" + zero(19999) + "<=1;", 11, SETS + "^row r:" + zero(20000) + "<=1;");
        T.edge(SETS + "row r:0<=" + zero(19999) + ";", 11, SETS + "^row r:0<=" + zero(20000) + ";");
        T.edge(SETS + "row r:" + zero(19997) + "<=1 or 0<=1;", 11, SETS + "^row r:" + zero(19998) + "<=1 or 0<=1;");
        T.edge(SETS + "row r if " + zero(19997) + "<1:0<=1;", 11, SETS + "^row r if " + zero(19998) + "<1:0<=1;");
        T.edge(SETS + "set c=1..1;param p[c]=" + zero(20000) + ";", 11, SETS + "set c=1..2;^param p[c]=" + zero(20000) + ",1;");
        // Of one declaration: each has its own.
        String all = zero(20000);
        T.fine(SETS + "min " + all + ";max " + all + ";", 0);
        // In all members of a row together.
        T.edge(SETS + "set c=1..1;row r[m in c]:" + zero(19999) + "<=1;", 11, SETS + "set c=1..2;^row r[m in c]:" + zero(19999) + "<=1;");
    }

    /** A part that takes so many steps: with the + ahead of it there is room for just so many. */
    private static void takes(int steps, String part) {
        takes(steps, "", part);
    }

    private static void takes(int steps, String ahead, String part) {
        T.edge(ahead + SETS + "min " + zero(19999 - steps) + "+" + part + ";", 11, ahead + SETS + "^min " + zero(20000 - steps) + "+" + part + ";");
    }

    private static void stepsOfEach() {
        C.sentence("each NUMBER, NAME and sign + - * / that is worked out, each time, is one,");
        takes(1, "1");
        takes(1, "(1)");
        takes(1, "((1))");
        takes(2, "-1");
        takes(3, "--1");
        takes(3, "1*1");
        takes(3, "1/1");
        takes(3, "(1+1)");
        takes(3, "(1-1)");
        takes(5, "1*2*3");
        takes(4, "2*-3");
        String some = "set c=1..2;param p=1;param q[c]=1,2;param r[c,c]=1,2,3,4;var x from 0 to 1;var y[c]from 0 to 1;var z[c,c]from 0 to 1;";
        takes(1, some, "p");
        takes(2, some, "q[1]");
        takes(3, some, "r[1,2]");
        takes(4, some, "q[q[q[1]]]");
        takes(1, some, "x");
        takes(2, some, "y[1]");
        takes(3, some, "z[2,2]");
        takes(4, some, "y[1+1]");
        takes(2, some, "sum{m in c}1");
        takes(2, some, "sum{m in c}m");
        takes(4, some, "sum{m in c}y[m]");
        takes(12, some, "sum{m in c,n in c}z[m,n]");
        takes(6, some, "sum{m in c}(m*2)");
        takes(8, some, "sum{m in c}sum{n in c}y[n]");
        takes(6, some, "2*sum{m in c}1+1");
    }

    private static void stepsOfTruths() {
        C.sentence("each NUMBER, NAME and sign + - * / that is worked out, each time, is one,");
        String c = "set c=1..3;";
        // Two for each member's truth, and one for each that holds.
        takes(9, c, "sum{m in c if m>0}1");
        takes(6, c, "sum{m in c if m>3}1");
        takes(7, c, "sum{m in c if m>2}1");
        // m>2 or m<2: the second half for 1 and 2; holds for 1 and 3.
        takes(2 * 3 + 2 * 2 + 2, c, "sum{m in c if m>2 or m<2}1");
        // m>1 and m<3: the second half for 2 and 3; holds for 2.
        takes(2 * 3 + 2 * 2 + 1, c, "sum{m in c if m>1 and m<3}1");
        takes(2 * 3 + 2 * 2 + 1, c, "sum{m in c if not{m<=1 or m>=3}}1");
        takes(4 * 3 + 2, c, "sum{m in c if m-1>0}1");
    }

    private static void stepsFirst() {
        C.sentence("in the order of the text; told ahead of what that step would be)");
        // The last step is the one that the fault is of, or the one behind which it is seen.
        T.edge(SETS + "min " + zero(19996) + "+1/1;", 6, SETS + "min " + zero(19996) + "+1^/0;");
        T.fault(11, SETS + "^min " + zero(19997) + "+1/0;");
        T.fault(6, SETS + "min " + zero(19996) + "+1^/0;");
        T.fault(9, SETS + "min " + zero(19996) + "+999^*999999;");
        T.fault(11, SETS + "^min " + zero(19997) + "+999*999999;");
        String p = "set c=1..2;param p[c]=1,2;var x from 0 to 1;";
        T.fault(8, p + SETS + "min " + zero(19997) + "+p[^3];");
        T.fault(11, p + SETS + "^min " + zero(19998) + "+p[3];");
        T.fault(7, p + SETS + "min " + zero(19997) + "+p[^x];");
        T.fault(11, p + SETS + "^min " + zero(19998) + "+p[x];");
        T.fault(5, p + SETS + "min " + zero(19996) + "+x^*x;");
        T.fault(11, p + SETS + "^min " + zero(19997) + "+x*x;");
        // A sign is a step ahead of what stands behind it.
        T.fault(6, p + SETS + "min " + zero(19995) + "+1^/0+1;");
        T.fault(11, SETS + "^row r:" + zero(19999) + "<=1/0;");
        T.fault(11, SETS + "^row r:" + zero(19998) + "<=1/0;");
        T.fault(6, SETS + "row r:" + zero(19997) + "<=1^/0;");
        T.fault(9, "var x from 0 to 1;" + SETS + "row r:^" + zero(19997) + "+x<=100000;");
        T.fault(11, "var x from 0 to 1;" + SETS + "^row r:" + zero(19998) + "+x<=100000;");
    }

    private static void way(String told, String due) {
        OptimaWorks x = Checks.reading("var u from 0 to 9;var v from 0 to 9;row r:" + told + ";");
        String got = x.row(0, 0, 0) + " " + x.row(0, 0, 1) + " " + "<>=".charAt(x.row(0, 0, NONE - 1)) + " " + x.row(0, 0, NONE);
        C.same(told, got, due);
    }

    private static void kept() {
        C.sentence("A WAY is KEPT as left side less right side: numbers of variables on the left, the rest on the right, with its sign,");
        way("u+3<=v+5", "1 -1 < 2");
        way("3<=5+u", "-1 0 < 2");
        way("3>=5+u", "-1 0 > 2");
        way("3=5+u", "-1 0 = 2");
        way("u<=u", "0 0 < 0");
        way("u+v>=v", "1 0 > 0");
        C.sentence("all times the least positive number that makes them whole, without a common divisor.");
        way("2*u<=4*v", "1 -2 < 0");
        way("2*u<=5", "2 0 < 5");
        way("-2*u<=-4", "-1 0 < -2");
        way("6*u+9*v>=12", "2 3 > 4");
        way("u/2+v/3=1", "3 2 = 6");
        way("u/2<=1/2", "1 0 < 1");
        way("2/3*u<=4/9", "3 0 < 2");
        way("0<=7", "0 0 < 1");
        way("0>=-7/3", "0 0 > -1");
        way("7<=0", "0 0 < -1");
        way("0=0", "0 0 = 0");
        way("5*u=0", "1 0 = 0");
        way("-5*u=0", "-1 0 = 0");
        // The same denominators, or parts of one another, on both sides.
        way("u/2<=u/4+1", "1 0 < 4");
        way("u/2+v<=u/4", "1 4 < 0");
        way("u+1/2<=3/4", "4 0 < 1");
        way("u+1/2<=1/2", "1 0 < 0");
        way("u/6+1/4>=u/10+v/15-1/6", "4 -4 > -25");
        way("7/12*u=u/12+v/2", "1 -1 = 0");
        // A difference of two values may have greater numbers than a value, if none is left of them.
        way("1/1000/1000<=1/999999", "0 0 < 1");
        way("1/999999<=1/1000/1000", "0 0 < -1");
        way("u/1000/1000<=u/999999", "-1 0 < 0");
        way("u/1000/1000+v/999999>=u/999999+v/1000/1000", "-1 1 > 0");
    }

    private static void cases(String text, int due) {
        C.same("about(6) of " + text, Checks.reading(text).about(6), due);
    }

    private static void cases() {
        C.sentence("CASES: for each row how many ways it has, for each whole variable how many whole numbers it can be: all multiplied.");
        cases("", 1);
        cases("row r:0<=1;", 1);
        cases("row r:0<=1 or 0<=1;", 2);
        cases("row r:0<=1 or 0<=1 or 0<=1;row q:0<=1 or 0<=1;", 6);
        cases("var x from 0 to 9;", 1);
        cases("var x whole from 0 to 9;", 10);
        cases("var x whole from 3 to 3;", 1);
        cases("var x whole from -2 to 1;var y whole from 0 to 2;row r:0<=1 or 0<=1;", 24);
        cases("set a=1..3;var x[a]whole from 0 to 1;row r[i in a]if i>1:0<=1 or 0<=1;", 32);
        cases("row r if 1>2:0<=1 or 0<=1;", 1);
    }
}
