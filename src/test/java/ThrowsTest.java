import java.util.ArrayList;
import java.util.List;

/** What throws changes nothing: an object that threw answers all that one does that was never asked. */
public final class ThrowsTest {
    private static final int NONE = OptimaWorks.NONE;
    private static final Checks C = new Checks("ThrowsTest");

    interface Maker {
        OptimaWorks make();
    }

    interface Use {
        long of(OptimaWorks x);
    }

    public static void main(String[] args) {
        C.sentence("What throws changes nothing but what is told.");
        changesNothing("a new object", OptimaWorks::new, withoutModel());
        changesNothing("a model", ThrowsTest::model, ofModel());
        changesNothing("a model without an answer", ThrowsTest::noAnswer, withoutAnswer());
        changesNothing("full desks", ThrowsTest::fullDesks, ofFullDesks());
        changesNothing("desks", ThrowsTest::desks, ofDesks());
        reads();
        C.finish();
    }

    private static List<Use> withoutModel() {
        List<Use> uses = new ArrayList<>();
        uses.add(x -> x.variable(0, 0));
        uses.add(x -> x.row(0, 0, 0));
        uses.add(x -> x.goal(0, 0, false));
        uses.add(x -> x.write());
        uses.add(x -> x.solve(false) ? 1 : 0);
        uses.add(x -> x.solve(true) ? 1 : 0);
        uses.add(x -> x.value(0));
        uses.add(x -> x.best(0));
        uses.add(x -> x.way(0));
        uses.add(x -> x.count());
        uses.add(x -> x.counted(0, 0));
        uses.add(x -> x.prove());
        uses.add(x -> x.multiplier(0));
        uses.add(x -> x.multiplier(NONE));
        uses.add(x -> x.rule(0, 1, 0, 0));
        return uses;
    }

    private static OptimaWorks model() {
        OptimaWorks x = Checks.reading("var a whole from 0 to 3;var b from 0 to 4;row r:2*a+b>=3;row q:a>=1 or b>=1;different a;min a+b;max b;");
        x.solve(true);
        x.prove();
        x.best(0);
        x.feed(0x20202020, 0x203f2020, 0, 0, 0);
        return x;
    }

    private static List<Use> ofModel() {
        List<Use> uses = new ArrayList<>();
        int[] none = {-1, 2, 99};
        for (int i : none) {
            uses.add(x -> x.variable(i, 0));
            uses.add(x -> x.row(i, 0, 0));
            uses.add(x -> x.row(1, i, 0));
            uses.add(x -> x.goal(i, 0, true));
            uses.add(x -> x.value(i));
            uses.add(x -> x.best(i));
            uses.add(x -> x.way(i));
        }
        uses.add(x -> x.row(0, 0, 2));
        uses.add(x -> x.goal(0, 2, true));
        uses.add(x -> x.multiplier(5));
        uses.add(x -> x.multiplier(-2));
        return uses;
    }

    private static OptimaWorks noAnswer() {
        OptimaWorks x = Checks.reading("var a whole from 0 to 3;var b from 0 to 4;row r:2*a=5;min a;");
        x.write();
        x.solve(false);
        return x;
    }

    private static List<Use> withoutAnswer() {
        List<Use> uses = new ArrayList<>();
        uses.add(x -> x.value(0));
        uses.add(x -> x.best(0));
        uses.add(x -> x.way(0));
        uses.add(x -> x.value(9));
        uses.add(x -> x.multiplier(0));
        uses.add(x -> x.multiplier(NONE));
        uses.add(x -> x.multiplier(99));
        return uses;
    }

    private static OptimaWorks fullDesks() {
        OptimaWorks x = new OptimaWorks();
        for (int i = 0; i < 10; i++) {
            x.holder(i < 7 ? 3 : 1);
        }
        for (int i = 0; i < 12; i++) {
            x.rule(2, 127, 1, 6);
        }
        for (int i = 0; i < 24; i++) {
            x.clause(1 << i % 12, 0, i);
        }
        for (int i = 0; i < 40; i++) {
            x.arc(i % 12, (i + 1) % 12, 5, i);
        }
        x.listing();
        return x;
    }

    private static List<Use> ofFullDesks() {
        List<Use> uses = new ArrayList<>();
        uses.add(x -> x.holder(1));
        uses.add(x -> x.holder(0));
        uses.add(x -> x.rule(2, 1, 1, 1));
        uses.add(x -> x.rule(5, 1, 1, 1));
        uses.add(x -> x.clause(0, 1, 0));
        uses.add(x -> x.clause(0, 0, 0));
        uses.add(x -> x.arc(0, 5, 9, 0));
        uses.add(x -> x.arc(0, 0, 9, 0));
        return uses;
    }

    private static OptimaWorks desks() {
        OptimaWorks x = new OptimaWorks();
        x.holder(7);
        x.holder(6);
        x.pair(1, 2);
        x.rule(0, 3, 0, 0);
        x.clause(1, 2, 5);
        x.clause(0, 1, 0);
        x.arc(0, 1, 3, 4);
        x.arc(1, 2, 5, 6);
        x.arc(2, 0, 5, 6);
        return x;
    }

    private static List<Use> ofDesks() {
        List<Use> uses = new ArrayList<>();
        uses.add(x -> x.holder(65536));
        uses.add(x -> x.holder(0));
        uses.add(x -> x.rule(0, 4, 0, 0));
        uses.add(x -> x.rule(1, 0, 16, 1));
        uses.add(x -> x.rule(2, 1, 0, 201));
        uses.add(x -> x.rule(3, 1, 0, 16));
        uses.add(x -> x.rule(4, 1, 1, 0));
        uses.add(x -> x.clause(1, 1, 5));
        uses.add(x -> x.clause(1, 0, 1001));
        uses.add(x -> x.arc(0, 12, 1, 1));
        uses.add(x -> x.arc(3, 3, 1, 1));
        uses.add(x -> x.arc(0, 1, 1001, 1));
        uses.add(x -> x.greatest(0, 12));
        uses.add(x -> x.greatest(1, 1));
        uses.add(x -> x.cut(-1, 0));
        uses.add(x -> x.cut(1, 1));
        uses.add(x -> x.cheapest(0, 12, 1));
        uses.add(x -> x.cheapest(1, 1, 1));
        uses.add(x -> x.path(12, 0, 0));
        uses.add(x -> x.path(1, 1, 0));
        uses.add(x -> x.tour(1, 0));
        uses.add(x -> x.tour(511, 0));
        return uses;
    }

    private static void changesNothing(String what, Maker maker, List<Use> uses) {
        List<String> due = shots(maker.make());
        for (int i = 0; i < uses.size(); i++) {
            OptimaWorks x = maker.make();
            boolean thrown = false;
            try {
                uses.get(i).of(x);
            } catch (IllegalArgumentException | IllegalStateException | IndexOutOfBoundsException told) {
                thrown = true;
            }
            C.same(what + ", call " + i + " throws", thrown, true);
            C.same(what + ", behind call " + i, shots(x).toString(), due.toString());
        }
    }

    private static String shot(OptimaWorks x, Use use) {
        try {
            return Long.toString(use.of(x));
        } catch (IllegalArgumentException | IllegalStateException | IndexOutOfBoundsException told) {
            return told.getClass().getSimpleName();
        }
    }

    /** All that an object answers; what it changes itself comes last. */
    private static List<String> shots(OptimaWorks x) {
        List<String> shots = new ArrayList<>();
        shots.add(Checks.outputOf(x));
        for (int what = 0; what < 8; what++) {
            int of = what;
            shots.add(shot(x, y -> y.about(of)));
            shots.add(shot(x, y -> y.fault(of)));
            shots.add(shot(x, y -> y.truth(of)));
            shots.add(shot(x, y -> y.need(of, 0)));
            shots.add(shot(x, y -> y.left(of)));
            shots.add(shot(x, y -> y.listed(0, of)));
            shots.add(shot(x, y -> y.reason(0, of)));
            shots.add(shot(x, y -> y.way(of)));
        }
        shots.add(shot(x, y -> y.variable(1, 1)));
        shots.add(shot(x, y -> y.row(0, 0, 0)));
        shots.add(shot(x, y -> y.goal(0, 0, false)));
        shots.add(shot(x, y -> y.listing()));
        shots.add(shot(x, y -> y.greatest(0, 2)));
        shots.add(shot(x, y -> y.cut(0, 2)));
        shots.add(shot(x, y -> y.cheapest(0, 2, 2)));
        shots.add(shot(x, y -> y.path(0, 2, NONE - 1)));
        shots.add(shot(x, y -> y.tree()));
        shots.add(shot(x, y -> y.tour(7, NONE - 1)));
        for (int i = 0; i < 3; i++) {
            int of = i;
            shots.add(shot(x, y -> y.value(of)) + " " + Checks.outputOf(x));
            shots.add(shot(x, y -> y.best(of)) + " " + Checks.outputOf(x));
            shots.add(shot(x, y -> y.multiplier(of)) + " " + Checks.outputOf(x));
        }
        shots.add(shot(x, y -> y.end(20)));
        shots.add(shot(x, y -> y.read()) + " " + x.fault(0) + " " + x.fault(1));
        shots.add(shot(x, y -> y.holder(1)));
        shots.add(shot(x, y -> y.rule(4, 0, 1, 0)));
        shots.add(shot(x, y -> y.left(0)));
        shots.add(shot(x, y -> y.clause(1, 0, 1)));
        shots.add(shot(x, y -> y.arc(0, 1, 1, 1)));
        return shots;
    }

    /** A read() with a fault takes the model, but neither the tape nor the output nor the desks. */
    private static void reads() {
        OptimaWorks x = desks();
        Checks.tell(x, "min 12;");
        x.read();
        x.solve(false);
        x.best(0);
        x.feed(0x3b202020, 0, 0, 0, 0);
        Checks.tell(x, "?");
        x.feed(0x3b202020, 0, 0, 0, 0);
        C.badArgument("read()", () -> x.read());
        C.same("the output stays", Checks.outputOf(x), "12");
        C.same("the tape stays", x.about(0), 8);
        C.same("what is ready stays", x.end(4), 12);
        C.same("holders stay", x.left(1), 6);
        C.same("clauses stay", x.truth(4), 2);
        C.same("arcs stay", x.greatest(0, 2), 3);
        C.badArgument("read() again", () -> x.read());
        C.same("the same fault", x.fault(0), 2);
        C.same("at the same place", x.fault(1), 7);
    }
}
