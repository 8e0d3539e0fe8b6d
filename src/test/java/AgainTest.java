import java.util.ArrayList;
import java.util.List;

/** What an object was used for before must not count: each text is read behind each other one, and on a new object. */
public final class AgainTest {
    private static final int NONE = OptimaWorks.NONE;
    private static final Checks C = new Checks("AgainTest");
    private static final String[] TEXTS = {
        "",
        "?",
        "min 1/0;",
        "set a=1..2;param p[a]=1,2;var q from 0 to 1;param z=^;",
        "min 7/3;",
        "max 5;min -1/2;max 9;",
        "row r:0>=1;",
        "row r:0=0;row q:0<=1;",
        "var a from 0 to 9;",
        "var a from -3 to 9;max a;",
        "var a whole from -1 to 2;min 3*a;",
        "var a from 0 to 9;row r:a>=10;",
        "var a from 0 to 9;row r:a<=-2;min a;",
        "var a from 2 to 2;var b whole from 5 to 6;row r:a+b>=8;max a+b;",
        "var a from 0 to 9;var b from 0 to 9;row r:a+2*b>=4;",
        "var a from 0 to 9;var b from 0 to 9;row r:a+2*b>=4;row q:2*a+b>=4;min a+b;",
        "var a from 0 to 9;var b from 0 to 9;row r:a+b=7;row q:a-b=2;max b;min a;",
        "var a from 0 to 9;var b from 0 to 9;row r:a+b=7;row q:a+b=9;min a;",
        "var a from 0 to 9;var b from 0 to 9;row r:a>=1 or b>=1;row q:3*a+b<=2 or b=3 or a>=8;min a+b;",
        "var a from 0 to 9;row r:a>=10 or a<=-1;",
        "set s=1..3;var v[s]whole from 0 to 2;different v;max v[1]-v[2];",
        "set s=1..3;var v[s]whole from 0 to 1;different v;",
        "set s=1..6;var v[s]whole from 0 to 1;row r:sum{i in s}(i*v[i])=7;max v[1];",
        "set s=1..8;var v[s]from 0 to 5;row r:sum{i in s}v[i]>=17 or sum{i in s}v[i]>=17;min sum{i in s}(i*v[i]);",
        "set s=1..8;var v[s]from 0 to 5;max v[1]/97+v[2]/89+v[3]/83+v[4]/79+v[5]/73+v[6]/71+v[7]/67+v[8]/61;",
        "set s=1..8;set t=1..12;var v[s]whole from 1 to 1;row r[i in t]:sum{j in s}v[j]<=i;" + "different v;".repeat(8) + "min v[8];max v[8];min v[1];",
        "set s=1..8;var v[s]whole from 1 to 1;" + "different v;".repeat(8),
        "set s=1..8;var v[s]from -9 to 9;row r[i in s]if i<8:3*v[i]-2*v[i+1]>=i;row q:v[8]>=1/3;min sum{i in s}v[i];",
        "set s=1..8;set t=1..12;var v[s]from 0 to 0;row r[i in t]:0=0;min sum{i in s}v[i];",
        "set a=1..12;param p[a,a]=1" + ",1".repeat(142) + ",5;min p[12,12];",
    };

    public static void main(String[] args) {
        C.sentence("The tape is read: the model (instead of another one): how many variables.");
        List<String> due = new ArrayList<>();
        for (String text : TEXTS) {
            due.add(all(new OptimaWorks(), text));
        }
        for (int first = 0; first < TEXTS.length; first++) {
            for (int second = 0; second < TEXTS.length; second++) {
                OptimaWorks x = new OptimaWorks();
                use(x, TEXTS[first]);
                C.same(TEXTS[second] + " behind " + TEXTS[first], all(x, TEXTS[second]), due.get(second));
            }
        }
        manyTimes();
        desks();
        C.finish();
    }

    private static void use(OptimaWorks x, String text) {
        Checks.tell(x, text);
        if (readsWell(x)) {
            x.solve(true);
            x.prove();
            x.multiplier(NONE);
            x.solve(false);
            x.count();
            x.write();
        }
        x.wipe();
    }

    private static boolean readsWell(OptimaWorks x) {
        try {
            x.read();
            return true;
        } catch (IllegalArgumentException fault) {
            return false;
        }
    }

    /** All that can be asked of a model; the proof is asked for ahead of the second answer. */
    private static String all(OptimaWorks x, String text) {
        Checks.tell(x, text);
        StringBuilder told = new StringBuilder();
        told.append(readsWell(x)).append(x.fault(0)).append(' ').append(x.fault(1));
        for (int what = 2; what < 8; what++) {
            told.append(' ').append(x.about(what));
        }
        if (x.fault(0) != 0) {
            return told.toString();
        }
        answer(x, false, told);
        told.append(" proof ").append(x.prove());
        for (int i = NONE; i < x.about(7); i++) {
            x.multiplier(i);
            told.append(' ').append(Checks.outputOf(x));
        }
        answer(x, true, told);
        told.append(" count ").append(x.count());
        for (int v = 0; v < x.about(2); v++) {
            told.append(' ').append(x.counted(0, v)).append(' ').append(x.counted(x.count() - 1, v));
        }
        return told.toString();
    }

    private static void answer(OptimaWorks x, boolean relaxed, StringBuilder told) {
        boolean solved = x.solve(relaxed);
        told.append(" solved ").append(solved);
        for (int g = 0; solved && g < x.about(4); g++) {
            x.best(g);
            told.append(' ').append(Checks.outputOf(x));
        }
        for (int k = 0; solved && k < x.about(2); k++) {
            x.value(k);
            told.append(' ').append(Checks.outputOf(x));
        }
        for (int r = 0; solved && r < x.about(3); r++) {
            told.append(' ').append(x.way(r));
        }
    }

    /** The same text, as often as there are calls for it. */
    private static void manyTimes() {
        String text = TEXTS[TEXTS.length - 1];
        OptimaWorks x = new OptimaWorks();
        Checks.tell(x, text);
        for (int i = 0; i < 100; i++) {
            C.same("read() number " + i, x.read(), 0);
            C.same("p[12,12], read() number " + i, x.goal(0, NONE, false), 5);
        }
        OptimaWorks y = new OptimaWorks();
        for (int i = 0; i < 80; i++) {
            y.wipe();
            Checks.tell(y, i % 2 == 0 ? "?" : "min " + i + ";");
            C.same("read() number " + i, readsWell(y), i % 2 == 1);
            C.same("about(4), read() number " + i, y.about(4), i % 2);
        }
    }

    /** Answers of a desk are those of what is on it now. */
    private static void desks() {
        OptimaWorks x = new OptimaWorks();
        for (int i = 1; i <= 10; i++) {
            x.holder(3);
            C.same("listing() of " + i, x.listing(), 1 << i);
            C.same("listed(0, " + (i - 1) + ")", x.listed(0, i - 1), 0);
            C.same("listed() of the last row", x.listed((1 << i) - 1, i - 1), 1);
            C.same("left(" + (i - 1) + ")", x.left(i - 1), 3);
        }
        for (int r = 0; r < 10; r++) {
            x.rule(2, 1 << r, 1, 1);
            C.same("left(" + r + ")", x.left(r), 2);
            C.same("listing() with " + (r + 1) + " rules", x.listing(), 1 << 9 - r);
            C.same("reason(" + r + ", 0)", x.reason(r, 0), 1 << r);
            C.same("left(0) behind reason()", x.left(0), 2);
            C.same("listed(0, " + r + ")", x.listed(0, r), 1);
        }
        OptimaWorks y = new OptimaWorks();
        for (int i = 0; i < 12; i++) {
            C.same("LEAST of " + i, y.truth(0), 0);
            y.clause(1 << i, 0, i);
            C.same("THE CHOICE of " + (i + 1), y.truth(1), (1 << i + 1) - 1);
            C.same("MODELS of " + (i + 1), y.truth(2), 4096 >> i + 1);
        }
        for (int i = 12; i > 0; i--) {
            C.same("THE CHOICE of " + i, y.truth(1), (1 << i) - 1);
            C.same("the CORE of " + i, y.truth(3), 0);
            y.unsay();
        }
        C.same("MODELS of none", y.truth(2), 4096);
        OptimaWorks z = new OptimaWorks();
        for (int i = 0; i < 40; i++) {
            z.arc(i % 2, 2 + i % 2, 10, i);
            C.same("greatest(0, 2) of " + (i + 1), z.greatest(0, 2), 10 * (i / 2 + 1));
            C.same("cheapest(0, 2, 11) of " + (i + 1), z.cheapest(0, 2, 11), i < 2 ? NONE : 2);
            C.same("tree() of " + (i + 1), z.tree(), i == 0 ? 1 : 3);
        }
        for (int i = 40; i > 2; i--) {
            z.unarc();
            C.same("greatest(1, 3) of " + (i - 1), z.greatest(1, 3), 10 * ((i - 1) / 2));
            C.same("path(1, 3), cost, of " + (i - 1), z.path(1, 3, NONE - 1), 1);
            C.same("cut(1, 3) of " + (i - 1), z.cut(1, 3), 2);
        }
    }
}
