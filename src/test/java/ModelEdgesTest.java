/** The edges of promises 5 to 10 and of what is WRITTEN, a sentence of the document at a time. */
public final class ModelEdgesTest {
    private static final int NONE = OptimaWorks.NONE;
    private static final int LEAST = Integer.MIN_VALUE;
    private static final int GREATEST = Integer.MAX_VALUE;
    private static final Checks C = new Checks("ModelEdgesTest");

    public static void main(String[] args) {
        reads();
        faults();
        variables();
        rows();
        goals();
        writes();
        writtenVariables();
        writtenRows();
        writtenDifferents();
        writtenGoals();
        C.finish();
    }

    private static void reads() {
        C.sentence("The tape is read: the model (instead of another one): how many variables.");
        C.same("read() of nothing", Checks.reading("").about(2), 0);
        OptimaWorks x = new OptimaWorks();
        Checks.tell(x, "set s=1..8;var a[s]from 0 to 1;row r:a[8]<=1;min a[8];");
        C.same("read() of eight", x.read(), 8);
        C.same("read() again", x.read(), 8);
        C.same("rows, once", x.about(3), 1);
        C.same("goals, once", x.about(4), 1);
        x.wipe();
        C.same("the model stays till the next read()", x.about(2), 8);
        C.same("read() of nothing", x.read(), 0);
        for (int what = 2; what < 8; what++) {
            C.same("about(" + what + ") instead", x.about(what), what == 6 ? 1 : 0);
        }
        Checks.tell(x, "var b whole from 3 to 4;");
        C.same("read() of one", x.read(), 1);
        C.same("its from", x.variable(0, 0), 3);
        C.badIndex("no row of the former", () -> x.row(0, 0, 0));
        C.sentence("IllegalArgumentException: a FAULT.");
        Checks.tell(x, "?");
        C.badArgument("read()", () -> x.read());
        C.badArgument("read() again", () -> x.read());
    }

    private static void faults() {
        C.sentence("Of the latest read(): the FAULT, 0 without (what = 0), its place (1; NONE without).");
        OptimaWorks x = new OptimaWorks();
        C.same("fault(0) ahead of read()", x.fault(0), 0);
        C.same("fault(1) ahead of read()", x.fault(1), NONE);
        Checks.tell(x, "?");
        C.same("fault(0) ahead of read(), a ? on the tape", x.fault(0), 0);
        C.badArgument("read()", () -> x.read());
        C.same("fault(0)", x.fault(0), 2);
        C.same("fault(1) at place 0", x.fault(1), 0);
        x.wipe();
        Checks.tell(x, "set a=1..2");
        C.same("fault(0) of the latest read()", x.fault(0), 2);
        C.badArgument("read()", () -> x.read());
        C.same("fault(0)", x.fault(0), 1);
        C.same("fault(1)", x.fault(1), 10);
        Checks.tell(x, ";");
        C.same("read()", x.read(), 0);
        C.same("fault(0) without", x.fault(0), 0);
        C.same("fault(1) without", x.fault(1), NONE);
        C.sentence("NONE for another what.");
        int[] others = {-1, 2, LEAST, GREATEST};
        for (int what : others) {
            C.same("fault(" + what + ") without", x.fault(what), NONE);
        }
        Checks.tell(x, "?");
        C.badArgument("read()", () -> x.read());
        for (int what : others) {
            C.same("fault(" + what + ")", x.fault(what), NONE);
        }
    }

    private static void variables() {
        C.sentence("Of variable k: from (what = 0), to (1), 1 if it is whole, else 0 (2).");
        OptimaWorks x = Checks.reading("var a from -999 to 999;var b whole from -1 to -1;");
        int[][] due = {{-999, 999, 0}, {-1, -1, 1}};
        for (int k = 0; k < 2; k++) {
            for (int what = 0; what < 3; what++) {
                C.same("variable(" + k + ", " + what + ")", x.variable(k, what), due[k][what]);
            }
        }
        C.sentence("IndexOutOfBoundsException: there is none such. NONE for another what.");
        int[] none = {-1, 2, 8, LEAST, GREATEST};
        for (int k : none) {
            C.badIndex("variable(" + k + ", 0)", () -> x.variable(k, 0));
            C.badIndex("variable(" + k + ", 3)", () -> x.variable(k, 3));
        }
        int[] others = {-1, 3, LEAST, GREATEST};
        for (int what : others) {
            C.same("variable(0, " + what + ")", x.variable(0, what), NONE);
        }
        OptimaWorks eight = Checks.reading("set s=1..8;var a[s]from 0 to 7;");
        C.same("variable(7, 1)", eight.variable(7, 1), 7);
        C.badIndex("variable(8, 1)", () -> eight.variable(8, 1));
        C.badIndex("variable(0, 0) of none", () -> Checks.reading("").variable(0, 0));
    }

    private static void rows() {
        C.sentence("Of way w of row r, as KEPT: variable k's number; the right side (k = NONE); its sign: 0 <=, 1 >=, 2 = (k = NONE - 1); "
            + "how many ways the row has (k = NONE - 2, any w).");
        OptimaWorks x = Checks.reading("var a from 0 to 1;var b from 0 to 1;row r:2*a-3*b<=4 or b>=-5;row q:7*a=6;var d from 0 to 1;");
        int[][] due = {{0, 0, 2, -3, 0, 4, 0}, {0, 1, 0, 1, 0, -5, 1}, {1, 0, 7, 0, 0, 6, 2}};
        for (int[] d : due) {
            for (int k = 0; k < 3; k++) {
                C.same("row(" + d[0] + ", " + d[1] + ", " + k + ")", x.row(d[0], d[1], k), d[2 + k]);
            }
            C.same("right side of " + d[0] + ", " + d[1], x.row(d[0], d[1], NONE), d[5]);
            C.same("sign of " + d[0] + ", " + d[1], x.row(d[0], d[1], NONE - 1), d[6]);
        }
        int[] any = {0, 1, 2, 3, -1, LEAST, GREATEST};
        for (int w : any) {
            C.same("ways of 0, w = " + w, x.row(0, w, NONE - 2), 2);
            C.same("ways of 1, w = " + w, x.row(1, w, NONE - 2), 1);
        }
        C.sentence("IndexOutOfBoundsException: there is none such.");
        int[] none = {-1, 2, 12, LEAST, GREATEST};
        for (int i : none) {
            C.badIndex("row(" + i + ", 0, 0)", () -> x.row(i, 0, 0));
            C.badIndex("row(" + i + ", 0, NONE - 2)", () -> x.row(i, 0, NONE - 2));
            C.badIndex("row(0, " + i + ", 0)", () -> x.row(0, i, 0));
            C.badIndex("row(0, " + i + ", NONE)", () -> x.row(0, i, NONE));
            C.badIndex("row(0, " + i + ", NONE - 1)", () -> x.row(0, i, NONE - 1));
        }
        C.badIndex("row(1, 1, 0)", () -> x.row(1, 1, 0));
        C.badIndex("row(1, 1, NONE)", () -> x.row(1, 1, NONE));
        int[] noVariable = {3, 8, GREATEST, NONE - 3, LEAST};
        for (int k : noVariable) {
            C.badIndex("row(0, 0, " + k + ")", () -> x.row(0, 0, k));
        }
        OptimaWorks most = Checks.reading("set s=1..8;set t=1..12;var a[s]from 0 to 1;row r[i in t]:i*a[8]>=i*i;");
        for (int r = 0; r < 12; r++) {
            C.same("row(" + r + ", 0, 7)", most.row(r, 0, 7), 1);
            C.same("right side of " + r, most.row(r, 0, NONE), r + 1);
        }
        C.badIndex("row(12, 0, 7)", () -> most.row(12, 0, 7));
        C.badIndex("row(11, 0, 8)", () -> most.row(11, 0, 8));
        OptimaWorks last = Checks.reading("set t=1..11;var a from 0 to 1;row r[i in t]:a<=i;row q:a<=12 or a>=13 or a=14;");
        for (int w = 0; w < 3; w++) {
            C.same("sign of way " + w + " of row 11", last.row(11, w, NONE - 1), w);
            C.same("right side of way " + w + " of row 11", last.row(11, w, NONE), 12 + w);
        }
        OptimaWorks three = Checks.reading("row r:0<=1 or 0>=2 or 0=-3;");
        for (int w = 0; w < 3; w++) {
            C.same("sign of way " + w, three.row(0, w, NONE - 1), w);
            C.same("right side of way " + w, three.row(0, w, NONE), w == 2 ? -1 : 1);
        }
        C.badIndex("way 3 of three", () -> three.row(0, 3, NONE));
        C.badIndex("variable 0 of none", () -> three.row(0, 0, 0));
    }

    private static void goals() {
        C.sentence("Of goal g: variable k's number, or the one alone (k = NONE): the numerator, or (under) the denominator; "
            + "1 if it is a max, else 0 (k = NONE - 1).");
        OptimaWorks x = Checks.reading("var a from 0 to 1;var b from 0 to 1;min 99*a-1/99*b+9999;max -98/97*a-9998/9999;min 0;");
        int[][] due = {{99, 1, -1, 99, 9999, 1, 0}, {-98, 97, 0, 1, -9998, 9999, 1}, {0, 1, 0, 1, 0, 1, 0}};
        for (int g = 0; g < 3; g++) {
            for (int k = 0; k < 3; k++) {
                int at = k == 2 ? NONE : k;
                C.same("goal(" + g + ", " + at + ", false)", x.goal(g, at, false), due[g][2 * k]);
                C.same("goal(" + g + ", " + at + ", true)", x.goal(g, at, true), due[g][2 * k + 1]);
            }
            C.same("max of " + g, x.goal(g, NONE - 1, false), due[g][6]);
            C.same("max of " + g + ", under", x.goal(g, NONE - 1, true), due[g][6]);
        }
        C.sentence("IndexOutOfBoundsException: there is none such.");
        int[] noGoal = {-1, 3, LEAST, GREATEST};
        for (int g : noGoal) {
            C.badIndex("goal(" + g + ", 0, false)", () -> x.goal(g, 0, false));
            C.badIndex("goal(" + g + ", NONE - 1, true)", () -> x.goal(g, NONE - 1, true));
        }
        int[] noVariable = {2, 8, GREATEST, NONE - 2, LEAST};
        for (int k : noVariable) {
            C.badIndex("goal(0, " + k + ", false)", () -> x.goal(0, k, false));
        }
        C.badIndex("goal(0, 0, false) of none", () -> Checks.reading("var a from 0 to 1;").goal(0, 0, false));
        C.badIndex("goal(1, 0, false) of one", () -> Checks.reading("var a from 0 to 1;min a;").goal(1, 0, false));
    }

    private static void writes() {
        C.sentence("THE OUTPUT is the model, WRITTEN: how many bytes. IllegalStateException: there is no model.");
        OptimaWorks x = new OptimaWorks();
        C.badState("write()", () -> x.write());
        x.read();
        C.same("write() of an empty model", x.write(), 0);
        C.same("letter(0)", x.letter(0), NONE);
        Checks.tell(x, "min 1;");
        x.read();
        C.output("write()", x, x.write(), "min 1 ;\n");
        Checks.tell(x, "?");
        C.badArgument("read()", () -> x.read());
        C.badState("write() behind a fault", () -> x.write());
        C.same("the output stays", Checks.outputOf(x), "min 1 ;\n");
    }

    private static void written(String told, String due) {
        OptimaWorks x = Checks.reading(told);
        C.output("write() of " + told, x, x.write(), due);
        // What is written is a text of the same model, if the tape has room for it.
        OptimaWorks again = Checks.reading(due);
        C.output("write() of what is written", again, again.write(), due);
    }

    private static void writtenVariables() {
        C.sentence("a line for each variable: var x0 from 0 to 5 ; (x and its number; whole behind the name, if it is)");
        written("var a from 0 to 5;", "var x0 from 0 to 5 ;\n");
        written("var a whole from -9 to -8;var b from -999 to 999;", "var x0 whole from -9 to -8 ;\nvar x1 from -999 to 999 ;\n");
        written("set s=1..8;var a[s]from 0 to 0;", "var x0 from 0 to 0 ;\nvar x1 from 0 to 0 ;\nvar x2 from 0 to 0 ;\nvar x3 from 0 to 0 ;\n"
            + "var x4 from 0 to 0 ;\nvar x5 from 0 to 0 ;\nvar x6 from 0 to 0 ;\nvar x7 from 0 to 0 ;\n");
    }

    private static final String AB = "var a from 0 to 1;var b from 0 to 1;";
    private static final String X01 = "var x0 from 0 to 1 ;\nvar x1 from 0 to 1 ;\n";

    private static void writtenRows() {
        C.sentence("its ways as KEPT: numbers that are not 0 in the variables' order: + or - between, - ahead of a first one below 0; "
            + "a number and * if it is not 1; 0 if there are none; the sign; the right side");
        written(AB + "row r:2*a-b<=7;", X01 + "row r0 : 2 * x0 - x1 <= 7 ;\n");
        written(AB + "row r:a+b>=0;", X01 + "row r0 : x0 + x1 >= 0 ;\n");
        written(AB + "row r:b=-3;", X01 + "row r0 : x1 = -3 ;\n");
        written(AB + "row r:-a=3;", X01 + "row r0 : - x0 = 3 ;\n");
        written(AB + "row r:-a-b=1;", X01 + "row r0 : - x0 - x1 = 1 ;\n");
        written(AB + "row r:-99*a+98*b<=-99999;", X01 + "row r0 : - 99 * x0 + 98 * x1 <= -99999 ;\n");
        written(AB + "row r:b-2*a<=1;", X01 + "row r0 : - 2 * x0 + x1 <= 1 ;\n");
        written(AB + "row r:-2*b<=1;", X01 + "row r0 : - 2 * x1 <= 1 ;\n");
        written(AB + "row r:0<=0;", X01 + "row r0 : 0 <= 0 ;\n");
        written(AB + "row r:7<=0;", X01 + "row r0 : 0 <= -1 ;\n");
        written(AB + "row r:0*a>=0*b-5;", X01 + "row r0 : 0 >= -1 ;\n");
        C.sentence("then for each row row r0 : 2 * x0 - x1 <= 7 or .. ;");
        written(AB + "row r:a<=1 or b>=2 or a=b;row q:b<=1 or 0=0;",
            X01 + "row r0 : x0 <= 1 or x1 >= 2 or x0 - x1 = 0 ;\nrow r1 : x1 <= 1 or 0 = 0 ;\n");
        StringBuilder due = new StringBuilder("var x0 from 0 to 1 ;\n");
        for (int r = 0; r < 12; r++) {
            due.append("row r").append(r).append(" : x0 <= ").append(r + 1).append(" ;\n");
        }
        written("var a from 0 to 1;set t=1..12;row r[i in t]:a<=i;", due.toString());
    }

    private static void writtenDifferents() {
        C.sentence("then for each different, of all its variables, in their order, different x0 , x1 ;");
        String told = "var a whole from 0 to 1;set s=1..2;var b[s]whole from 0 to 1;var d from 0 to 1;var e whole from 0 to 1;";
        String due = "var x0 whole from 0 to 1 ;\nvar x1 whole from 0 to 1 ;\nvar x2 whole from 0 to 1 ;\nvar x3 from 0 to 1 ;\nvar x4 whole from 0 to 1 ;\n";
        written(told + "different a;", due + "different x0 ;\n");
        written(told + "different e,b,a;", due + "different x0 , x1 , x2 , x4 ;\n");
        written(told + "different b,e,b,e;different a,e;", due + "different x1 , x2 , x4 ;\ndifferent x0 , x4 ;\n");
        // Behind the rows, ahead of the goals, wherever they are told.
        written(told + "max d;different b;row r:d<=1;", due + "row r0 : x3 <= 1 ;\ndifferent x1 , x2 ;\nmax x3 ;\n");
        String eight = "set s=1..8;var a[s]whole from 0 to 0;" + "different a;".repeat(8);
        OptimaWorks x = Checks.reading(eight);
        String line = "different x0 , x1 , x2 , x3 , x4 , x5 , x6 , x7 ;\n";
        x.write();
        C.same("eight of eight", Checks.outputOf(x).endsWith(";\n" + line.repeat(8)), true);
    }

    private static void writtenGoals() {
        C.sentence("then for each goal min 3/2 * x0 - x1 + 5 ; (the number alone at the end, if it is not 0 or nothing else is there).");
        written(AB + "min 3/2*a-b+5;", X01 + "min 3/2 * x0 - x1 + 5 ;\n");
        written(AB + "min a;", X01 + "min x0 ;\n");
        written(AB + "max -a;", X01 + "max - x0 ;\n");
        written(AB + "max -3/2*b;", X01 + "max - 3/2 * x1 ;\n");
        written(AB + "min a/2-b/99;", X01 + "min 1/2 * x0 - 1/99 * x1 ;\n");
        written(AB + "min a+1/2;", X01 + "min x0 + 1/2 ;\n");
        written(AB + "min a-9999;", X01 + "min x0 - 9999 ;\n");
        written(AB + "min b-1/9999;", X01 + "min x1 - 1/9999 ;\n");
        written(AB + "min 0;max 0;", X01 + "min 0 ;\nmax 0 ;\n");
        written(AB + "min 5;", X01 + "min 5 ;\n");
        written("min 9999/9998;max 1/3;", "min 9999/9998 ;\nmax 1/3 ;\n");
        C.sentence("One blank between words, 10 behind each line, - of a number alone directly ahead of it, N/D written without blanks.");
        written(AB + "min -5;max -7/3;row r:a<=-1;", X01 + "row r0 : x0 <= -1 ;\nmin -5 ;\nmax -7/3 ;\n");
        written("var a from -3 to -2;", "var x0 from -3 to -2 ;\n");
        written(AB + "max a;min b;max a-b;", X01 + "max x0 ;\nmin x1 ;\nmax x0 - x1 ;\n");
    }
}
