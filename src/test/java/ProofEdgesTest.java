/** The edges of the proof and of promises 17 to 19, a sentence of the document at a time. */
public final class ProofEdgesTest {
    private static final int NONE = OptimaWorks.NONE;
    private static final int LEAST = Integer.MIN_VALUE;
    private static final int GREATEST = Integer.MAX_VALUE;
    private static final Checks C = new Checks("ProofEdgesTest");
    private static final String A = "var a from 0 to 9;";
    private static final String AB = "var a from 0 to 9;var b from 0 to 9;";

    public static void main(String[] args) {
        needs();
        turned();
        theGoal();
        leftOut();
        proving();
        multipliers();
        shortfalls();
        shortfallMultipliers();
        proves();
        needCalls();
        multiplierCalls();
        C.finish();
    }

    private static String told(OptimaWorks x, int i) {
        int length = x.multiplier(i);
        String text = Checks.outputOf(x);
        C.same("length of " + text, length, text.length());
        return text;
    }

    /** The multipliers of all needs, and behind | what is proved. */
    private static void proof(String text, String due) {
        OptimaWorks x = Checks.reading(text);
        StringBuilder got = new StringBuilder();
        int kept = x.prove();
        for (int i = 0; i < x.about(7); i++) {
            String multiplier = told(x, i);
            got.append(multiplier).append(' ');
            C.same("need(" + i + ", 0) of " + text, x.need(i, 0), multiplier.equals("0") ? 0 : 1);
            kept -= x.need(i, 0);
        }
        C.same("prove() of " + text, kept, 0);
        C.same("proof of " + text, got + "| " + told(x, NONE), due);
    }

    private static void needs() {
        C.sentence("NEEDS of the relaxed model: its rows, in their order, as KEPT; for each variable its from (x >= from), then for each its to (x <= to).");
        OptimaWorks x = Checks.reading(AB + "row z:a<=1 or b<=1;row r:a<=1;row y if 1>2:a<=0;row q:b>=2 or a=1 or a=2;row p:a=b;");
        x.prove();
        C.same("about(7)", x.about(7), 6);
        int[][] due = {{1, 0}, {3, 0}, {0, 1}, {1, 1}, {0, 2}, {1, 2}};
        for (int i = 0; i < due.length; i++) {
            C.same("need(" + i + ", 1)", x.need(i, 1), due[i][0]);
            C.same("need(" + i + ", 2)", x.need(i, 2), due[i][1]);
        }
        C.same("needs of nothing", Checks.reading("").about(7), 0);
        C.same("needs of a row", Checks.reading("row r:0<=1;").about(7), 1);
        C.same("needs of ways alone", Checks.reading("row r:0<=1 or 0<=1;").about(7), 0);
        OptimaWorks most = Checks.reading("set s=1..8;set t=1..12;var v[s]from 0 to 1;row r[i in t]:v[1]<=i;");
        most.prove();
        C.same("needs, at most", most.about(7), 28);
        C.same("need(11, 1)", most.need(11, 1), 11);
        C.same("need(12, 2)", most.need(12, 2), 1);
        C.same("need(19, 1)", most.need(19, 1), 7);
        C.same("need(20, 2)", most.need(20, 2), 2);
        C.same("need(27, 1)", most.need(27, 1), 7);
        C.same("need(28, 1)", most.need(28, 1), NONE);
        // As KEPT: 4 * a >= 6 is 2 * a >= 3.
        proof(A + "row r:4*a>=6;min a;", "1/2 0 0 | 3/2");
        // Whole and different count nothing.
        proof("var a whole from 0 to 3;var b whole from 0 to 3;different a,b;row r:2*a>=3;min a+b;", "1/2 0 1 0 0 | 3/2");
    }

    private static void turned() {
        C.sentence("Those with <= are turned (all numbers less than 0 instead of above), so that each is a x >= b, or a x = b.");
        proof(A + "row r:a<=4;max a;", "1 0 0 | -4");
        proof(A + "row r:-a>=-4;max a;", "1 0 0 | -4");
        proof(A + "row r:a>=4;min a;", "1 0 0 | 4");
        proof(A + "row r:-a<=-4;min a;", "1 0 0 | 4");
        // Even ones are not turned: their multipliers may be below 0.
        proof(A + "row r:a=4;min a;", "1 0 0 | 4");
        proof(A + "row r:a=4;max a;", "-1 0 0 | -4");
        proof(A + "row r:-a=-4;min a;", "-1 0 0 | 4");
        proof(A + "row r:-a=-4;max a;", "1 0 0 | -4");
        proof(A + "max a;", "0 1 | -9");
        proof(A + "min a;", "1 0 | 0");
    }

    private static void theGoal() {
        C.sentence("THE GOAL is the first one, of max turned, G; without goals 0.");
        proof(A, "0 0 | 0");
        proof("", "| 0");
        proof(A + "row r:a>=4;", "0 0 0 | 0");
        proof(A + "min 0;max a;", "0 0 | 0");
        proof(A + "min a;max a;", "1 0 | 0");
        proof(A + "max a;min a;", "0 1 | -9");
        proof(A + "min 5;", "0 0 | 5");
        proof(A + "max 5;", "0 0 | -5");
        proof(A + "max -5/3;", "0 0 | 5/3");
        proof(A + "min 2*a+1/2;", "2 0 | 1/2");
        proof(A + "max 2/3*a+1/2;", "0 2/3 | -13/2");
    }

    private static void leftOut() {
        C.sentence("The needs are gone through from the last to the first; each is left out if those that are kept so far and those ahead of it still prove that.");
        proof(A + "row r:a>=4;row q:a>=4;min a;", "1 0 0 0 | 4");
        proof(A + "row r:a>=3;row q:a>=4;min a;", "0 1 0 0 | 4");
        proof(A + "row r:a=4;row q:a>=4;min a;", "1 0 0 0 | 4");
        proof(A + "row r:a>=4;row q:a=4;min a;", "1 0 0 0 | 4");
        proof(A + "row r:a<=4;row q:a=4;min a;", "0 1 0 0 | 4");
        proof("var a from 4 to 4;min a;", "1 0 | 4");
        proof("var a from 4 to 4;max a;", "0 1 | -4");
        // a + b >= 4 alone, or a >= 2 and b >= 2 behind it.
        proof(AB + "row r:a+b>=4;row q:a>=2;row p:b>=2;min a+b;", "1 0 0 0 0 0 0 | 4");
        proof(AB + "row q:a>=2;row p:b>=2;row r:a+b>=4;min a+b;", "1 1 0 0 0 0 0 | 4");
        proof(AB + "row q:a>=2;row r:a+b>=4;row p:b>=2;min a+b;", "0 1 0 0 0 0 0 | 4");
        // Two even rows that tell the same.
        proof(AB + "row r:a+b=4;row q:2*a+2*b=8;min a+b;", "1 0 0 0 0 0 | 4");
        proof("row r:0<=0;row q:0=0;min 1;", "0 0 | 1");
    }

    private static void proving() {
        C.sentence("a set of needs PROVES that G is at least g, its best, if no numbers keep all of them and have a lesser G.");
        // Of a >= 0 and a + b >= 4 with b <= 4 the first alone proves a >= 0; nothing is wanted for a goal that is a number.
        proof(AB + "row r:a+b>=4;min a;", "0 1 0 0 0 | 0");
        proof(AB + "row r:a+b>=4;row q:b<=4;min a;", "1 1 0 0 0 0 | 0");
        proof(AB + "row r:a+b>=4;row q:b<=3;min a;", "1 1 0 0 0 0 | 1");
        proof(AB + "row r:a+b>=4;row q:b<=5;min a;", "0 0 1 0 0 0 | 0");
        proof(AB + "row r:a+b>=4;min a+b-a-b;", "0 0 0 0 0 | 0");
        C.sentence("needs that prove that t is at least that, in the same way;");
        proof(AB + "row r:a>=10;row q:b>=11;", "0 1/2 0 0 0 1/2 | 1");
        proof(AB + "row r:a>=11;row q:b>=11;", "1/2 0 0 0 1/2 0 | 1");
        proof(AB + "row r:a>=11;row q:b>=10;", "1/2 0 0 0 1/2 0 | 1");
    }

    private static void multipliers() {
        C.sentence("MULTIPLIERS are the numbers, for those that are kept (of >= none below 0), by which they, added up, tell G >= g, "
            + "but for G's number alone (there is just one such row of numbers).");
        proof(AB + "row r:a+2*b>=6;row q:2*a+b>=6;min a+b;", "1/3 1/3 0 0 0 0 | 4");
        proof(AB + "row r:a+2*b<=6;row q:2*a+b<=6;max a+b+7;", "1/3 1/3 0 0 0 0 | -11");
        proof(AB + "row r:a-b=2;min a;", "1 0 1 0 0 | 2");
        proof(AB + "row r:a-b=2;max b;", "1 0 0 1 0 | -7");
        proof(AB + "row r:b-a=2;max a;", "1 0 0 0 1 | -7");
        proof(AB + "row r:b-a=-2;min a;", "-1 0 1 0 0 | 2");
        proof("set s=1..8;var v[s]from 0 to 9;max sum{i in s}(98/99*v[i])+1/9999;",
            "0 0 0 0 0 0 0 0 98/99 98/99 98/99 98/99 98/99 98/99 98/99 98/99 | -64787/909");
        proof("set s=1..8;var v[s]from 0 to 5;min v[1]/97+v[2]/89+v[3]/83+v[4]/79+v[5]/73+v[6]/71+v[7]/67+v[8]/61;",
            "1/97 1/89 1/83 1/79 1/73 1/71 1/67 1/61 0 0 0 0 0 0 0 0 | 0");
    }

    private static void shortfalls() {
        C.sentence("numbers keep a need BUT FOR t if a x >= b - t, or b - t <= a x <= b + t; THE SHORTFALL is the least t with which all needs are kept by some numbers.");
        proof("row r:0>=1;", "1 | 1");
        proof("row r:0>=7;", "1 | 1");
        proof("row r:0<=-7;", "1 | 1");
        proof("row r:0=7;", "1 | 1");
        proof("row r:0=-7;", "-1 | 1");
        // Just kept, then just not.
        proof(A + "row r:a>=9;", "0 0 0 | 0");
        proof(A + "row r:a>=10;", "1/2 0 1/2 | 1/2");
        proof(A + "row r:a<=0;", "0 0 0 | 0");
        proof(A + "row r:a<=-1;", "1/2 1/2 0 | 1/2");
        proof(A + "row r:a=10;", "1/2 0 1/2 | 1/2");
        proof(A + "row r:a=-1;", "-1/2 1/2 0 | 1/2");
        proof(A + "row r:a=9;", "0 0 0 | 0");
        proof(A + "row r:a>=99999;", "1/2 0 1/2 | 49995");
        proof(A + "row r:2*a>=19;", "1/3 0 2/3 | 1/3");
        proof(A + "row r:a>=5;row q:a<=3;", "1/2 1/2 0 0 | 1");
        proof(A + "row r:a=5;row q:a=3;", "1/2 -1/2 0 0 | 1");
        proof(A + "row r:a=3;row q:a=5;min a;", "-1/2 1/2 0 0 | 1");
        // The goals count nothing then.
        proof(A + "row r:a>=10;max 5*a+3;", "1/2 0 1/2 | 1/2");
    }

    private static void shortfallMultipliers() {
        C.sentence("multipliers: those by which they, added up, tell 0 >= the shortfall, with their sum, those below 0 turned, 1.");
        // Times 1/2 and 1/2: (a - 10) / 2 + (9 - a) / 2 = -1/2.
        proof(A + "row r:a>=10;row q:a>=10;", "1/2 0 0 1/2 | 1/2");
        proof(A + "row r:a>=9;row q:a>=10;", "0 1/2 0 1/2 | 1/2");
        proof(AB + "row r:a+b>=21;", "1/3 0 0 1/3 1/3 | 1");
        proof(AB + "row r:a-b>=12;", "1/3 0 1/3 1/3 0 | 1");
        proof(AB + "row r:a-b=12;", "1/3 0 1/3 1/3 0 | 1");
        proof(AB + "row r:b-a=-12;", "-1/3 0 1/3 1/3 0 | 1");
        proof("var a from 3 to 3;row r:2*a=7;", "1/3 0 2/3 | 1/3");
        proof("row r:0>=1;row q:0=1;row p:0=-1;", "1 0 0 | 1");
        proof("row r:0<=1;row q:0=1;row p:0=-1;", "0 1 0 | 1");
    }

    private static void proves() {
        C.sentence("is made: how many needs it keeps. IllegalStateException: there is no model.");
        OptimaWorks x = new OptimaWorks();
        C.badState("prove()", () -> x.prove());
        x.read();
        C.same("prove() of nothing", x.prove(), 0);
        Checks.tell(x, AB + "min a+b;");
        x.read();
        C.same("prove()", x.prove(), 2);
        C.same("prove() again", x.prove(), 2);
        Checks.tell(x, "?");
        C.badArgument("read()", () -> x.read());
        C.badState("prove() behind a fault", () -> x.prove());
        OptimaWorks eight = Checks.reading("set s=1..8;var v[s]from 0 to 5;max sum{i in s}v[i];");
        C.same("prove() of eight", eight.prove(), 8);
    }

    private static void needCalls() {
        C.sentence("Of need i: whether the proof keeps it (what = 0: 1, else 0), the row or variable it is of (1), 0 a row, 1 from, 2 to (2).");
        OptimaWorks y = Checks.reading(AB + "row r:a<=1 or b<=1;row q:a>=2;min a+b;");
        y.prove();
        int[][] all = {{1, 1, 0}, {0, 0, 1}, {1, 1, 1}, {0, 0, 2}, {0, 1, 2}};
        for (int i = 0; i < all.length; i++) {
            for (int what = 0; what < 3; what++) {
                C.same("need(" + i + ", " + what + ")", y.need(i, what), all[i][what]);
            }
        }
        C.sentence("NONE without a proof since the latest read(), or if there is none such, or for another what.");
        OptimaWorks x = new OptimaWorks();
        C.same("need(0, 0) of a new object", x.need(0, 0), NONE);
        Checks.tell(x, A + "min a;");
        x.read();
        x.solve(true);
        for (int what = 0; what < 3; what++) {
            C.same("need(0, " + what + ") ahead of prove()", x.need(0, what), NONE);
        }
        x.prove();
        int[][] due = {{1, 0, 1}, {0, 0, 2}};
        for (int i = 0; i < 2; i++) {
            for (int what = 0; what < 3; what++) {
                C.same("need(" + i + ", " + what + ")", x.need(i, what), due[i][what]);
            }
        }
        int[] none = {-1, 2, 28, LEAST, GREATEST};
        for (int i : none) {
            C.same("need(" + i + ", 0)", x.need(i, 0), NONE);
            C.same("need(" + i + ", 2)", x.need(i, 2), NONE);
        }
        int[] others = {-1, 3, LEAST, GREATEST};
        for (int what : others) {
            C.same("need(0, " + what + ")", x.need(0, what), NONE);
        }
        x.read();
        C.same("need(0, 0): a read() came", x.need(0, 0), NONE);
        x.prove();
        C.same("need(0, 0)", x.need(0, 0), 1);
        Checks.tell(x, "?");
        C.badArgument("read()", () -> x.read());
        C.same("need(0, 0) behind a fault", x.need(0, 0), NONE);
    }

    private static void multiplierCalls() {
        C.sentence("The output is the multiplier of need i (0 if it is not kept); i = NONE: the G that is proved, or the shortfall.");
        OptimaWorks x = Checks.reading(A + "min 3*a+2;");
        x.prove();
        C.output("multiplier(0)", x, x.multiplier(0), "3");
        C.output("multiplier(1), not kept", x, x.multiplier(1), "0");
        C.output("multiplier(NONE)", x, x.multiplier(NONE), "2");
        C.sentence("IllegalStateException: no proof since the latest read(). IndexOutOfBoundsException: there is no such need.");
        int[] none = {-2, 2, 28, LEAST, GREATEST};
        for (int i : none) {
            C.badIndex("multiplier(" + i + ")", () -> x.multiplier(i));
        }
        x.read();
        int[] some = {0, NONE, -2, 2, LEAST, GREATEST};
        for (int i : some) {
            C.badState("multiplier(" + i + ") ahead of prove()", () -> x.multiplier(i));
            C.badState("multiplier(" + i + ") of a new object", () -> new OptimaWorks().multiplier(i));
        }
        OptimaWorks empty = Checks.reading("");
        empty.prove();
        C.output("multiplier(NONE) of nothing", empty, empty.multiplier(NONE), "0");
        C.badIndex("multiplier(0) of nothing", () -> empty.multiplier(0));
        OptimaWorks most = Checks.reading("set s=1..8;set t=1..12;var v[s]from 0 to 1;row r[i in t]:v[1]<=i;max v[8];");
        most.prove();
        C.output("multiplier(27)", most, most.multiplier(27), "1");
        C.badIndex("multiplier(28)", () -> most.multiplier(28));
    }
}
