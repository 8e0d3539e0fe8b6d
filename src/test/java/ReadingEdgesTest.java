/** The edges of TEXT that are seen in reading: faults 1, 3, 4 and 10, a sentence of the document at a time. */
public final class ReadingEdgesTest {
    private static final int NONE = OptimaWorks.NONE;
    private static final Checks C = new Checks("ReadingEdgesTest");
    private static final Texts T = new Texts(C);

    public static void main(String[] args) {
        declarations();
        commas();
        sets();
        params();
        vars();
        rows();
        differents();
        goals();
        factors();
        bindings();
        truths();
        declared();
        binders();
        firstFromTheLeft();
        unknown();
        much();
        deepFactors();
        deepLinears();
        deepTruths();
        deepOthers();
        had();
        several();
        noModel();
        C.finish();
    }

    private static void declarations() {
        C.sentence("TEXT: any number of DECLARATIONS, up to the end");
        T.fine("", 0);
        T.fine("set a=1..2;", 0);
        T.fine("var v whole from 0 to 1;different v;different v;", 1);
        T.fault(1, "^;");
        T.fault(1, "set a=1..2;^;");
        T.fault(1, "^a");
        T.fault(1, "set a=1..2;^a");
        T.fault(1, "^whole");
        // The shortest ones, as many as the tape has room for.
        String remarks = "# a remark\n".repeat(300);
        T.fine(remarks + "min 0;max 0;min 0;" + remarks.substring(0, 600), 0);
    }

    private static void commas() {
        C.sentence("(where commas stand between parts below that are told so, they are not written)");
        T.fault(1, "var x^, whole from 0 to 1;");
        T.fault(1, "var x whole^, from 0 to 1;");
        T.fault(1, "var x^, from 0 to 1;");
        T.fault(1, "row r^, if 1<2:1<=2;");
        T.fault(1, "row r if 1<2^,:1<=2;");
        T.fault(1, "row r:1<=2^, or 1<=2;");
        T.fault(1, "row r:1<=2^,;");
        C.sentence("All is numbered from 0 on.");
        OptimaWorks x = Checks.reading("var x from 3 to 4;row r:x<=4;min x;");
        C.same("variable(0, 0)", x.variable(0, 0), 3);
        C.same("row(0, 0, 0)", x.row(0, 0, 0), 1);
        C.same("goal(0, 0, false)", x.goal(0, 0, false), 1);
        C.same("first holder", x.holder(1), 0);
        C.same("first rule", x.rule(0, 1, 0, 0), 0);
        C.same("first clause", x.clause(1, 0, 1), 0);
        C.same("first arc", x.arc(0, 1, 1, 1), 0);
        T.fault(1, "^;");
    }

    private static void sets() {
        C.sentence("the set has these and all between, 1 .. 12 members.");
        T.edge("set a=5..5;", 4, "set a=5..^4;");
        T.edge("set a=5..16;", 4, "set a=5..^17;");
        String places = "set a=-2..2;param p[a]=1,2,3,4,5;";
        T.fault(8, places + "min p[^-3];");
        T.fine(places + "min p[-2]+p[-1]+p[0]+p[1]+p[2];", 0);
        T.fault(8, places + "min p[^3];");
        C.sentence("WHOLE: a NUMBER, perhaps - ahead");
        T.fine("set a=- 3 .. - 1;param p[a]=1,2,3;min p[-3];", 0);
        T.fine("set a=-0..-0;param p[a]=1;min p[0];", 0);
        T.fault(1, "set a=-^-3..1;");
        T.fault(1, "set a=^+3..4;");
        T.fault(1, "set a=3..^+4;");
        T.fault(1, "set a=3..-^;");
        T.fault(1, "set a=^(3)..4;");
        T.fault(1, "param p=3;set a=^p..4;");
    }

    private static void params() {
        C.sentence("PLACES: nothing, [ NAME ] or [ NAME , NAME ], names of sets");
        String sets = "set a=1..2;set b=1..1;";
        T.fine(sets + "param p=1;param q[b]=1;param r[b,b]=1;param s[b,a]=1,2;", 0);
        T.fault(1, sets + "param p[^]=1;");
        T.fault(1, sets + "param p[b,^]=1;");
        T.fault(1, sets + "param p[b,b^,b]=1;");
        T.fault(1, sets + "param p[b ^b]=1;");
        T.fault(1, sets + "param p[^1]=1;");
        T.fault(1, sets + "var x[^1..2]from 0 to 1;");
        T.fault(3, sets + "param p[^c]=1;");
        T.fault(3, sets + "param p[^p]=1;");
        T.fault(3, sets + "param p=1;param q[b,^p]=1;");
        C.sentence("as many LINEARs, with , between, as there are members, or pairs (those with the first set's first member first)");
        T.edge("param p=1;", 1, "param p=1^,2;");
        T.fault(1, "param p=^;");
        T.edge("set a=1..1;param p[a]=1;", 1, "set a=1..1;param p[a]=1^,2;");
        T.edge("set a=1..3;param p[a]=1,2,3;", 1, "set a=1..3;param p[a]=1,2^;");
        T.fault(1, "set a=1..3;param p[a]=1,2,3^,4;");
        String twelve = "set a=1..12;param p[a]=1" + ",1".repeat(11);
        T.edge(twelve + ";", 1, twelve + "^,1;");
        String most = "set a=1..12;param p[a,a]=7" + ",1".repeat(142);
        T.edge(most + ",9;min p[12,12]+p[1,1];", 1, most + "^;");
        T.fault(1, most + ",9^,9;");
        OptimaWorks x = Checks.reading("set a=1..2;set b=4..6;param p[a,b]=1,2,3,4,5,6;min p[1,6]+10*p[2,4]+100*p[2,6];");
        C.same("p[1,6], p[2,4] and p[2,6]", x.goal(0, NONE, false), 3 + 40 + 600);
    }

    private static void vars() {
        C.sentence("a VARIABLE for each member, or pair, in this order.");
        OptimaWorks x = Checks.reading("var y from 0 to 1;set a=1..2;set b=4..6;var x[a,b]from 0 to 1;var z from 0 to 1;row r:x[1,6]+2*x[2,4]+3*x[2,6]+4*y+5*z<=0;");
        int[] due = {4, 0, 0, 1, 2, 0, 3, 5};
        for (int k = 0; k < due.length; k++) {
            C.same("row(0, 0, " + k + ")", x.row(0, 0, k), due[k]);
        }
        C.sentence("var NAME PLACES, perhaps whole, from LINEAR to LINEAR ;");
        T.fine("var x from 0 to 1;var y whole from 0 to 1;", 2);
        T.fault(1, "var x from 0 to 1 ^whole;");
        T.fault(1, "var x whole ^whole from 0 to 1;");
        T.fault(1, "var x whole ^to 1;");
        T.fault(1, "var x from ^to 1;");
        T.fault(1, "var x from 0 ^from 1;");
        T.fault(1, "var ^whole from 0 to 1;");
    }

    private static void rows() {
        C.sentence("row NAME BINDERS, perhaps if TRUTH, : WAY, perhaps or WAY, perhaps or WAY, ;");
        T.fine("row r:1<=2;", 0);
        T.fine("row r:1<=2 or 1<=2;", 0);
        T.edge("row r:1<=2 or 1<=2 or 1<=2;", 1, "row r:1<=2 or 1<=2 or 1<=2 ^or 1<=2;");
        T.fault(1, "row r:^;");
        T.fault(1, "row r:1<=2 or^;");
        T.fault(1, "row r:1<=2 or ^or 1<=2;");
        T.fault(1, "row r:1<=2 ^and 1<=2;");
        T.fault(1, "row r:^not 1<=2;");
        T.fault(1, "row r:^{1<=2};");
        T.fault(1, "row r ^1<=2;");
        T.fault(1, "row r if ^:1<=2;");
        T.fault(1, "row ^if 1<2:1<=2;");
        for (int ways = 1; ways <= 3; ways++) {
            OptimaWorks x = Checks.reading("row r:1<=2" + " or 1<=2".repeat(ways - 1) + ";");
            C.same("ways", x.row(0, 0, NONE - 2), ways);
        }
        C.sentence("WAY: LINEAR <= LINEAR (or >= or =).");
        T.fine("row r:1<=2 or 1>=2 or 1=2;", 0);
        for (String sign : new String[] {"<", ">", "<>", ":", ".."}) {
            T.fault(1, "row r:1^" + sign + "2;");
            T.fault(1, "row r:1<=2 or 1^" + sign + "2;");
        }
        C.sentence("BINDERS: nothing, or [ BINDING ].");
        T.fine("set a=1..2;row r:1<=2;row q[i in a]:1<=2;row p[i in a,j in a]:1<=2;", 0);
        T.fault(1, "set a=1..2;row r[^]:1<=2;");
        T.fault(1, "set a=1..2;row r[b^]:1<=2;");
        T.fault(1, "set a=1..2;row r[i in a,j in a^,k in a]:1<=2;");
        T.fault(1, "set a=1..2;row r[i in a^}:1<=2;");
        C.sentence("A ROW for each member, or pair, for which the TRUTH holds.");
        String[][] due = {{"", "1"}, {" if 1=1", "1"}, {" if 1=2", "0"}, {"[i in a]", "3"}, {"[i in a]if i>3", "0"}, {"[i in a]if i>2", "1"},
            {"[i in a]if i>=1", "3"}, {"[i in a,j in a]", "9"}, {"[i in a,j in a]if i=j", "3"}, {"[i in a,j in a]if i>9", "0"}};
        for (String[] d : due) {
            OptimaWorks x = Checks.reading("set a=1..3;row r" + d[0] + ":0<=1;");
            C.same("rows of r" + d[0], x.about(3), Integer.parseInt(d[1]));
        }
        OptimaWorks x = Checks.reading("set a=1..3;var v[a]from 0 to 1;row r[i in a,j in a]if i<>j:5*v[i]-7*v[j]<=0;");
        int[][] pairs = {{0, 1}, {0, 2}, {1, 0}, {1, 2}, {2, 0}, {2, 1}};
        for (int r = 0; r < pairs.length; r++) {
            C.same("first of pair " + r, x.row(r, 0, pairs[r][0]), 5);
            C.same("second of pair " + r, x.row(r, 0, pairs[r][1]), -7);
        }
    }

    private static void differents() {
        C.sentence("1 .. 8 names of vars that are whole (one told twice counts once): all their variables differ.");
        String eight = "";
        String names = "v0";
        for (int i = 0; i < 8; i++) {
            eight += "var v" + i + " whole from " + i / 2 * 2 + " to " + i / 2 * 2 + ";";
            names += i == 0 ? "" : ",v" + i;
        }
        T.fault(1, eight + "different ^;");
        T.fine(eight + "different v0;", 8);
        T.fine(eight + "different " + names + ";", 8);
        T.fine(eight + "different v0,v0,v1,v1;", 8);
        T.fault(1, eight + "different " + names + "^,v0;");
        T.fault(1, eight + "different v0 ^v1;");
        T.fault(1, eight + "different v0,^;");
        T.fault(1, eight + "different v0^[1];");
        T.fault(1, eight + "different ^1;");
        T.fault(3, eight + "different v0,^v8;");
        T.fault(3, "var x from 0 to 1;different ^x;");
        T.fault(3, "param x=1;different ^x;");
        T.fault(3, "set x=0..1;different ^x;");
        T.fault(3, "row x:0<=1;different ^x;");
        // v0 and v1 are both 0, v2 is 2.
        C.same("v0 and v2 differ", Checks.reading(eight + "different v0,v2;").solve(false), true);
        C.same("v0 and v1 do not", Checks.reading(eight + "different v0,v1;").solve(false), false);
        C.same("v0 twice", Checks.reading(eight + "different v0,v0;").solve(false), true);
        C.same("all of a var", Checks.reading("set a=1..3;var v[a]whole from 0 to 1;different v;").solve(false), false);
        C.same("of a var of two", Checks.reading("set a=1..2;var v[a]whole from 0 to 1;different v;").solve(false), true);
        C.same("each different by itself", Checks.reading(eight + "different v0,v2;different v1,v3;").solve(false), true);
    }

    private static void goals() {
        C.sentence("GOALS, in this order, at most 3.");
        T.edge("min 1;max 2;min 3;", 4, "min 1;max 2;min 3;^max 4;");
        OptimaWorks x = Checks.reading("max 1;min 2;max 3;");
        C.same("goals", x.about(4), 3);
        for (int g = 0; g < 3; g++) {
            C.same("goal " + g, x.goal(g, NONE, false), g + 1);
            C.same("max " + g, x.goal(g, NONE - 1, false), g == 1 ? 0 : 1);
        }
        T.fault(1, "min^;");
        T.fault(1, "min 1 ^2;");
        T.fault(1, "min 1^<=2;");
        T.fault(1, "min ^max 2;");
    }

    private static void factors() {
        C.sentence("with [ LINEAR ] or [ LINEAR , LINEAR ] behind if it has one place or two");
        String some = "set a=1..2;param p=1;param q[a]=1,2;param r[a,a]=1,2,3,4;var x from 0 to 1;var y[a]from 0 to 1;var z[a,a]from 0 to 1;";
        T.fine(some + "min p+q[1]+r[1,1]+x+y[1]+z[1,1];", 7);
        T.fault(1, some + "min p^[1];");
        T.fault(1, some + "min x^[1];");
        T.fault(1, some + "min q^;");
        T.fault(1, some + "min y^+1;");
        T.fault(1, some + "min q[1^,1];");
        T.fault(1, some + "min y[1^,1];");
        T.fault(1, some + "min r[1^];");
        T.fault(1, some + "min z[1^];");
        T.fault(1, some + "min z[1,1^,1];");
        T.fault(1, some + "min r^;");
        T.fault(1, some + "min q[^];");
        T.fault(1, some + "min r[1,^];");
        T.fault(1, some + "min sum{i in a}i^[1];");
        T.fault(1, some + "min q[1^;");
        C.sentence("FACTOR: - FACTOR; a NUMBER;");
        T.fine("min -1;min --1;max -(-1);", 0);
        T.fault(1, "min ^+1;");
        T.fault(1, "min 1-^+1;");
        T.fault(1, "min -^;");
        T.fault(1, "min 1*^/2;");
        T.fault(1, "min ^*1;");
        T.fault(1, "min 1^(2);");
        T.fault(1, "min (^);");
        T.fault(1, "min (1^;");
        T.fault(1, "min 1^);");
        T.fault(1, "min (1^];");
        T.fault(1, "min ^{1};");
        T.fault(1, "min ^[1];");
        C.sentence("( LINEAR ); sum { BINDING } FACTOR, sum { BINDING if TRUTH } FACTOR.");
        OptimaWorks y = Checks.reading("set a=2..4;min sum{i in a}i*10+1;min sum{i in a}(i*10+1);min sum{i in a if i<>3}-i;");
        int[] sums = {91, 93, -6};
        for (int g = 0; g < 3; g++) {
            C.same("sum " + g, y.goal(g, NONE, false), sums[g]);
        }
        T.fault(1, "set a=2..4;min sum{i in a}^;");
        T.fault(1, "set a=2..4;min sum{i in a}(i^;");
        C.sentence("LINEAR: TERMs with + or - between.");
        T.fine("min 1+2-3;", 0);
        OptimaWorks four = Checks.reading("min 1+20+300+4000;min 1-20+300-4000;min 2*3*5*7/10/3;");
        int[] values = {4321, -3719, 7};
        for (int g = 0; g < 3; g++) {
            C.same("value " + g, four.goal(g, NONE, false), values[g]);
        }
        T.fault(1, "min 1+^;");
        T.fault(1, "min 1-^;");
        T.fault(1, "min 1+^+2;");
        T.fault(1, "min 1 ^2;");
        C.sentence("TERM: FACTORs with * or / between, from the left.");
        OptimaWorks x = Checks.reading("min 12/2*3;min 12/2/3;min 2-3-4*5/2;");
        int[] due = {18, 2, -11};
        for (int g = 0; g < 3; g++) {
            C.same("goal " + g, x.goal(g, NONE, false), due[g]);
        }
    }

    private static void bindings() {
        C.sentence("BINDING: NAME in NAME, or NAME in NAME , NAME in NAME");
        String a = "set a=1..2;";
        T.fine(a + "min sum{i in a}1+sum{i in a,j in a}1;", 0);
        T.fault(1, a + "min sum{^}1;");
        T.fault(1, a + "min sum{i^}1;");
        T.fault(1, a + "min sum{i in^}1;");
        T.fault(1, a + "min sum{^1 in a}1;");
        T.fault(1, a + "min sum{i in ^1..2}1;");
        T.fault(1, a + "min sum{i in a,^}1;");
        T.fault(1, a + "min sum{i in a,j^}1;");
        T.fault(1, a + "min sum{i in a,j in a^,k in a}1;");
        T.fault(1, a + "min sum{i in a,j in a ^or 1=1}1;");
        T.fault(1, a + "min sum{i in a if^}1;");
        T.fault(1, a + "min sum{i in a if 1<2^;");
        T.fault(1, a + "min sum^[i in a]1;");
        T.fault(1, a + "min sum{i in a}^;");
        C.sentence("new names that stand for the members of sets (of pairs the first one's first)");
        OptimaWorks x = Checks.reading("set a=-1..1;set b=5..6;var v[b]from 0 to 1;row r[i in a,j in b]:(i+2)*v[j]>=10*i+j;");
        int[][] due = {{-1, 5}, {-1, 6}, {0, 5}, {0, 6}, {1, 5}, {1, 6}};
        for (int r = 0; r < due.length; r++) {
            int number = due[r][0] + 2;
            int right = 10 * due[r][0] + due[r][1];
            // As kept, without a common divisor.
            int common = right % number == 0 ? number : 1;
            C.same("number of row " + r, x.row(r, 0, due[r][1] - 5), number / common);
            C.same("right side of row " + r, x.row(r, 0, NONE), right / common);
        }
    }

    private static void truths() {
        C.sentence("ONE: not ONE; { TRUTH }; LINEAR <= LINEAR (or >= < > = <>).");
        String[] signs = {"<=", ">=", "<", ">", "=", "<>"};
        boolean[][] due = {{true, true, false}, {false, true, true}, {true, false, false}, {false, false, true}, {false, true, false}, {true, false, true}};
        for (int s = 0; s < signs.length; s++) {
            for (int left = 1; left <= 3; left++) {
                String truth = left + signs[s] + "2";
                C.same(truth, Checks.reading("row r if " + truth + ":0<=1;").about(3), due[s][left - 1] ? 1 : 0);
                C.same("not " + truth, Checks.reading("row r if not " + truth + ":0<=1;").about(3), due[s][left - 1] ? 0 : 1);
                C.same("{" + truth + "}", Checks.reading("row r if{" + truth + "}:0<=1;").about(3), due[s][left - 1] ? 1 : 0);
            }
        }
        T.fault(1, "row r if not^:0<=1;");
        T.fault(1, "row r if {^}:0<=1;");
        T.fault(1, "row r if {1<2^:0<=1;");
        T.fault(1, "row r if 1^:0<=1;");
        T.fault(1, "row r if (1^<2):0<=1;");
        T.fault(1, "row r if 1<2^<3:0<=1;");
        T.fault(1, "row r if 1^..3:0<=1;");
        C.sentence("TRUTH: ALLs with or between. ALL: ONEs with and between.");
        for (int bits = 0; bits < 8; bits++) {
            boolean p = (bits & 1) != 0;
            boolean q = (bits & 2) != 0;
            boolean r = (bits & 4) != 0;
            String a = p ? "1=1" : "1=2";
            String b = q ? "1=1" : "1=2";
            String d = r ? "1=1" : "1=2";
            C.same("or, and", Checks.reading("row r if " + a + " or " + b + " and " + d + ":0<=1;").about(3), p || q && r ? 1 : 0);
            C.same("and, or", Checks.reading("row r if " + a + " and " + b + " or " + d + ":0<=1;").about(3), p && q || r ? 1 : 0);
            C.same("and { or }", Checks.reading("row r if " + a + " and{" + b + " or " + d + "}:0<=1;").about(3), p && (q || r) ? 1 : 0);
            C.same("and, and", Checks.reading("row r if " + a + " and " + b + " and " + d + ":0<=1;").about(3), p && q && r ? 1 : 0);
            C.same("or, or", Checks.reading("row r if " + a + " or " + b + " or " + d + ":0<=1;").about(3), p || q || r ? 1 : 0);
            C.same("not, and", Checks.reading("row r if not " + a + " and " + b + ":0<=1;").about(3), !p && q ? 1 : 0);
            C.same("not, or", Checks.reading("row r if not " + a + " or " + b + ":0<=1;").about(3), !p || q ? 1 : 0);
            C.same("not { and }", Checks.reading("row r if not{" + a + " and " + b + "}:0<=1;").about(3), !(p && q) ? 1 : 0);
        }
    }

    private static String forty() {
        StringBuilder text = new StringBuilder("set a=1..1;var x from 0 to 1;param p=1;row r:1<=1;");
        for (int i = 4; i < 40; i++) {
            text.append("param n").append(i).append("=").append(i).append(";");
        }
        return text.toString();
    }

    private static void declared() {
        C.sentence("Names of sets, params, vars, rows are DECLARED, all different, at most 40");
        String[] kinds = {"set ^N=1..1;", "param ^N=1;", "var ^N from 0 to 1;", "row ^N:1<=1;"};
        String thirtyNine = forty().replace("param n39=39;", "");
        for (String kind : kinds) {
            T.edge(thirtyNine + kind.replace("^N", "m"), 4, forty() + kind.replace("^N", "^m"));
            for (String former : kinds) {
                T.edge(former.replace("^N", "m") + kind.replace("^N", "M"), 10, former.replace("^N", "m") + kind.replace("^N", "^m"));
            }
        }
        // Goals, differents and binders are no declared names.
        T.fine(forty() + "min sum{i in a}i;max n39;min x;", 1);
        T.fine("var y whole from 0 to 1;" + thirtyNine + "different y;", 2);
        // A row that is nowhere is declared, too.
        T.fault(10, "row r if 1>2:1<=2;row ^r:1<=2;");
        C.sentence("(a name is declared when its declaration is done)");
        T.fault(3, "param p=^p;");
        T.fault(3, "var x from 0 to ^x;");
        T.fault(3, "row r:^r<=1;");
        T.fault(3, "set a=1..2;param p[^p]=1,2;");
        T.fine("param p=1;param q=p;", 0);
    }

    private static void binders() {
        C.sentence("a binder's name is none of these, nor of its own declaration, nor of a binder around.");
        String some = "set a=1..2;param p=1;var x from 0 to 1;row r:1<=2;";
        for (String name : new String[] {"a", "p", "x", "r"}) {
            T.edge(some + "min sum{i in a}1;", 10, some + "min sum{^" + name + " in a}1;");
            T.fault(10, some + "row q[^" + name + " in a]:1<=2;");
            T.fault(10, some + "row q[i in a,^" + name + " in a]:1<=2;");
        }
        T.fault(10, some + "row q[^q in a]:1<=2;");
        T.fault(10, some + "row q:sum{^q in a}1<=2;");
        T.fault(10, some + "param q=sum{^q in a}1;");
        T.fault(10, some + "var q from 0 to sum{^q in a}1;");
        T.fault(10, some + "row q[i in a]:sum{^i in a}1<=2;");
        T.fault(10, some + "row q[i in a,^i in a]:1<=2;");
        T.fault(10, some + "row q[i in a]if sum{^i in a}1<2:1<=2;");
        T.fault(10, some + "min sum{i in a}sum{j in a,^i in a}1;");
        T.fault(10, some + "min sum{i in a,j in a}(1+sum{^j in a}1);");
        T.fault(10, some + "min sum{i in a if sum{^i in a}1>0}1;");
        // Binders beside one another, of a former declaration, or named as a later one are fine.
        T.fine(some + "min sum{i in a}1+sum{i in a}i;", 1);
        T.fine(some + "min sum{i in a if sum{j in a}j>i}sum{j in a}1;", 1);
        T.fine(some + "row q[i in a]:1<=2;row s[i in a]:1<=2;", 1);
        T.fine(some + "param q=sum{i in a}i;param i=2;min i;", 1);
        T.fault(3, some + "min sum{i in a}1+^i;");
        T.fault(3, some + "min ^i+sum{i in a}1;");
        T.fault(3, some + "row q[i in a]:1<=2;row s:^i<=2;");
    }

    private static void firstFromTheLeft() {
        C.sentence("FAULTS of reading, at a word, the first one from the left");
        T.fault(3, "min ^a+?;");
        T.fault(2, "min 1+^?+a;");
        T.fault(1, "min 1+^;+a;");
        T.fault(4, "set a=1..^13?");
        T.fault(10, "set a=1..2;set ^a=2..1;");
        T.fault(4, "set a=2..^1;set a=1..2;");
        C.sentence("1 WORD: it can't stand there.");
        T.edge("min 1;", 1, "min 1^:");
        T.edge("min 1;", 1, "min ^;");
        T.edge("", 1, "^;");
    }

    private static void unknown() {
        C.sentence("3 UNKNOWN: a NAME that is none of a kind that may stand there.");
        String some = "set a=1..2;param p=1;var x from 0 to 1;var y whole from 0 to 1;row r:1<=2;";
        for (String name : new String[] {"b", "a", "r"}) {
            T.fault(3, some + "min ^" + name + ";");
            T.fault(3, some + "row q if ^" + name + "<2:1<=2;");
            T.fault(3, some + "row q:1<=^" + name + ";");
            T.fault(3, some + "var z from ^" + name + " to 1;");
        }
        for (String name : new String[] {"b", "p", "x", "y", "r"}) {
            T.fault(3, some + "param q[^" + name + "]=1,2;");
            T.fault(3, some + "param q[a,^" + name + "]=1,2;");
            T.fault(3, some + "var z[^" + name + "]from 0 to 1;");
            T.fault(3, some + "min sum{i in ^" + name + "}1;");
            T.fault(3, some + "row q[i in a,j in ^" + name + "]:1<=2;");
        }
        for (String name : new String[] {"b", "a", "p", "x", "r"}) {
            T.fault(3, some + "different ^" + name + ";");
            T.fault(3, some + "different y,^" + name + ";");
        }
        T.fine(some + "min p+x+y+sum{i in a}i;different y;", 2);
        T.fault(3, some + "min sum{i in a}sum{j in ^i}1;");
    }

    private static void much() {
        C.sentence("4 MUCH: a 41st declared name;");
        T.edge(forty(), 4, forty() + "set ^m=1..2;");
        T.fault(4, forty() + "set ^m=2..1;");
        T.fault(4, forty() + "set ^m");
        C.sentence("the second WHOLE of a set that is less than the first, or 12 or more above it;");
        T.edge("set a=3..3;", 4, "set a=3..^2;");
        T.edge("set a=-3..-3;", 4, "set a=-3..^-4;");
        T.edge("set a=0..11;", 4, "set a=0..^12;");
        T.edge("set a=-12..-1;", 4, "set a=-12..^0;");
        T.edge("set a=-6..5;", 4, "set a=-6..^6;");
        T.edge("set a=-14..-3;", 4, "set a=-14..^-2;");
        T.fault(4, "set a=-999999..^999999;");
        T.fault(4, "set a=999999..^- 999999;");
        T.fault(1, "set a=5..-^;");
        C.sentence("a 4th goal (at min or max);");
        T.edge("min 1;min 1;min 1;", 4, "min 1;min 1;min 1;^min 1;");
        T.edge("max 1;max 1;max 1;", 4, "max 1;max 1;max 1;^max 1;");
        T.fault(4, "min 1;min 1;min 1;^max");
        C.sentence("a 9th different (at it);");
        String v = "var v whole from 0 to 1;";
        T.edge(v + "different v;".repeat(8), 4, v + "different v;".repeat(8) + "^different v;");
        T.fault(4, v + "different v;".repeat(8) + "^different");
        C.same("differents", Checks.reading(v + "different v;".repeat(8)).about(5), 8);
    }

    private static final String DEEP = "a LINEAR, TRUTH, FACTOR or ONE with not within 25 others of one declaration (at its first word).";

    private static void deepFactors() {
        C.sentence(DEEP);
        // A LINEAR and 23 FACTORs round the last one; then one more.
        String minus = "-".repeat(23);
        T.edge("min " + minus + "1;", 4, "min " + minus + "-^1;");
        T.edge("min 1+" + minus + "1;", 4, "min 1+" + minus + "-^1;");
        T.edge("min 2*" + minus + "1*" + minus + "1;", 4, "min 2*" + minus + "1*" + minus + "-^1;");
        T.fault(4, "min " + minus + "-^-1;");
        T.fault(4, "min " + minus + "-^(1);");
        T.edge("set a=1..1;param p[a]=1;min " + minus.substring(2) + "p[1];", 4, "set a=1..1;param p[a]=1;min " + minus.substring(1) + "p[^1];");
        // FACTORs of sums within one another; each sum wants a name of its own.
        StringBuilder sums = new StringBuilder("set a=1..1;min ");
        for (int i = 0; i < 23; i++) {
            sums.append("sum{b").append(i).append(" in a}");
        }
        T.edge(sums + "1;", 4, sums + "sum{i in a}^1;");
        T.edge(sums + "b0;", 4, sums + "-^b22;");
        T.fault(4, sums + "-^sum{i in a}1;");
    }

    private static void deepLinears() {
        C.sentence(DEEP);
        String open = "(".repeat(11);
        String shut = ")".repeat(11);
        T.edge("min " + open + "1" + shut + ";", 4, "min " + open + "(^1" + shut + ");");
        // Behind a - brackets are at 2, 4, .. 24, LINEARs at 3, 5, .. 25.
        T.edge("min -" + open + "1" + shut + ";", 4, "min -" + open + "(^1" + shut + ");");
        T.edge("min --" + open.substring(1) + "1" + shut.substring(1) + ";", 4, "min --" + open + "^1" + shut + ";");
        // A place is a LINEAR within the FACTOR of its name.
        String p = "set a=1..1;param p[a]=1;param q[a,a]=1;";
        T.edge(p + "min " + "p[".repeat(11) + "1" + "]".repeat(11) + ";", 4, p + "min " + "p[".repeat(12) + "^1" + "]".repeat(12) + ";");
        T.edge(p + "min " + "q[1,".repeat(11) + "1" + "]".repeat(11) + ";", 4, p + "min " + "q[1,".repeat(11) + "q[^1,1]" + "]".repeat(11) + ";");
        // What is as deep as can be is worked out as well: 1 + 2 * (1 + 2 * ( .. 1)) is 4095.
        String value = "1+2*(".repeat(11) + "1" + shut;
        OptimaWorks x = Checks.reading("var v from 0 to 9;min " + value + ";row r:0<=v+" + value + ";");
        C.same("the deepest value", x.goal(0, NONE, false), 4095);
        C.same("on the right side of a row", x.row(0, 0, NONE), 4095);
        OptimaWorks y = Checks.reading("set a=1..2;set b=1..1;min sum{i in a}(1+2*sum{j in b}(1+2*sum{k in b}(1+2*sum{l in b}(1+2*sum{m in b}(1+2*sum{n in b}(i))))));");
        C.same("the deepest sums", y.goal(0, NONE, false), 2 * 31 + 32 * 3);
        // Those beside one another do not count, nor those of another declaration.
        T.fine("min " + open + "1" + shut + "*" + open + "1" + shut + "+" + open + "1" + shut + ";max " + open + "1" + shut + ";", 0);
        T.fine("row r:" + open + "1" + shut + "<=" + open + "1" + shut + " or " + open + "1" + shut + "=1;", 0);
        T.fault(4, "row r:1<=2 or 1<=(" + open + "^1" + shut + ");");
    }

    private static void deepTruths() {
        C.sentence(DEEP);
        String row = "row r if ";
        // The TRUTH, then one for each bracket; a LINEAR and a FACTOR within.
        String open = "{".repeat(22);
        String shut = "}".repeat(22);
        T.edge(row + open + "1<2" + shut + ":0<=1;", 4, row + open + "{^1<2}" + shut + ":0<=1;");
        T.fault(4, row + open + "{{^1<2}}" + shut + ":0<=1;");
        T.fault(4, row + open + "{{{^1<2}}}" + shut + ":0<=1;");
        T.fault(4, row + open + "{{{^not 1<2}}}" + shut + ":0<=1;");
        T.fault(4, row + open + "{{{^{1<2}}}}" + shut + ":0<=1;");
        T.fault(4, row + open + "{{^not 1<2}}" + shut + ":0<=1;");
        T.fault(4, row + open + "{not ^1<2}" + shut + ":0<=1;");
        // { alone is no TRUTH: the 25th may stand, what is in it not.
        T.fault(1, row + open + "{{^}");
        T.fault(1, row + open + "{{{^}");
        T.fine(row + open + "1<2 or 1<2 and 1<2" + shut + " or 1<2:" + "(".repeat(11) + "1" + ")".repeat(11) + "<=2;", 0);
        // Within a sum: the LINEAR, the FACTOR, then its TRUTH.
        String sum = "set a=1..1;min sum{i in a if ";
        String less = "{".repeat(20);
        String lessShut = "}".repeat(20);
        T.edge(sum + less + "1<2" + lessShut + "}1;", 4, sum + less + "{^1<2}" + lessShut + "}1;");
    }

    private static void deepOthers() {
        C.sentence(DEEP);
        String row = "row r if ";
        String nots = "not ".repeat(22);
        T.edge(row + nots + "1<2:0<=1;", 4, row + nots + "not ^1<2:0<=1;");
        T.fault(4, row + nots + "not not ^1<2:0<=1;");
        T.fault(4, row + nots + "not not ^not 1<2:0<=1;");
        T.fault(4, row + nots + "not not {^1<2}:0<=1;");
        // ONEs with not round a TRUTH in brackets: the TRUTH counts, the ONE with brackets does not.
        T.edge(row + "not ".repeat(21) + "{1<2}:0<=1;", 4, row + nots + "{^1<2}:0<=1;");
        T.fine(row + nots + "1<2 and " + nots + "1<2 or " + nots + "1<2:0<=1;", 0);
    }

    private static void had() {
        C.sentence("10 HAD: a NAME that is told, and was declared, or may not be a binder's.");
        T.edge("set a=1..2;set b=1..2;", 10, "set a=1..2;set ^a=1..2;");
        T.edge("set a=1..2;min sum{b in a}1;", 10, "set a=1..2;min sum{^a in a}1;");
        T.edge("set a=1..2;row r[s in a]:1<=2;", 10, "set a=1..2;row r[^r in a]:1<=2;");
        T.edge("set a=1..2;row r[i in a,j in a]:1<=2;", 10, "set a=1..2;row r[i in a,^i in a]:1<=2;");
        // A binder's name may be declared behind its declaration.
        T.fine("set a=1..2;row r[i in a]:1<=2;set i=1..2;", 0);
        T.fault(10, "set a=1..2;row r[i in a]:1<=2;set i=1..2;row q[^i in a]:1<=2;");
    }

    private static void several() {
        C.sentence("Of several at one word: 2, 1, 3, 10, 4.");
        String deep = "(".repeat(12);
        T.fault(2, "^abcdefghi");
        T.fault(2, forty() + "set ^abcdefghi=1..2;");
        T.fault(2, "min " + deep + "^?");
        T.fault(2, "min " + deep + "^abcdefghi");
        T.fault(2, "min " + deep + "^1234567");
        T.fault(1, forty() + "set ^set=1..2;");
        T.fault(1, forty() + "set ^1=1..2;");
        T.fault(1, forty() + "set");
        T.fault(1, "min " + deep + "^)");
        T.fault(1, "min " + deep + "^to");
        T.fault(1, "min " + deep);
        T.fault(1, "set a=1..2;param p=1 ^q;");
        T.fault(1, "set a=1..2;set b ^a=1..2;");
        T.fault(3, "min " + deep + "^q");
        T.fault(3, "set q=1..2;min " + deep + "^q");
        T.fault(3, "row r if " + "{".repeat(25) + "^q");
        T.fault(3, "row r if " + "not ".repeat(24) + "^q");
        T.fault(10, forty() + "set ^a=1..2;");
        T.fault(10, forty() + "row ^n39:1<=2;");
        T.fault(4, forty() + "set ^m=1..2;");
        T.fault(4, "min " + deep + "^1");
        T.fault(4, "param q=1;min " + deep + "^q");
        T.fault(4, "row r if " + "not ".repeat(24) + "^not");
    }

    private static void noModel() {
        C.sentence("With a FAULT there is no model (also none that was there).");
        for (String bad : new String[] {"?", "min 1/0;", "var w from 0 to 1000;", "set"}) {
            OptimaWorks x = Checks.reading("var v from 0 to 1;min v;row r:v<=1;");
            x.solve(false);
            x.prove();
            Checks.tell(x, bad);
            C.badArgument("read() of " + bad, () -> x.read());
            C.badIndex("variable(0, 0)", () -> x.variable(0, 0));
            C.badIndex("row(0, 0, 0)", () -> x.row(0, 0, 0));
            C.badIndex("goal(0, 0, false)", () -> x.goal(0, 0, false));
            C.badState("write()", () -> x.write());
            C.badState("solve(false)", () -> x.solve(false) ? 1 : 0);
            C.badState("count()", () -> x.count());
            C.badState("counted(0, 0)", () -> x.counted(0, 0));
            C.badState("prove()", () -> x.prove());
            C.badState("value(0)", () -> x.value(0));
            C.badState("multiplier(0)", () -> x.multiplier(0));
            C.same("need(0, 0)", x.need(0, 0), NONE);
            x.wipe();
            C.same("read() again", x.read(), 0);
            C.same("about(2): an empty model", x.about(2), 0);
        }
    }
}
