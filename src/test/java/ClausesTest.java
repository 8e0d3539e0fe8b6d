/** Promises 30 to 32: clause, unsay, truth. */
public final class ClausesTest {
    private static final int NONE = OptimaWorks.NONE;

    public static void main(String[] args) {
        Checks c = new Checks("ClausesTest");
        clauses(c);
        truths(c);
        cores(c);
        c.finish();
    }

    private static void truth(Checks c, String what, OptimaWorks x, int... due) {
        for (int i = 0; i < due.length; i++) {
            c.same(what + ": truth(" + i + ")", x.truth(i), due[i]);
        }
    }

    private static void clauses(Checks c) {
        OptimaWorks x = new OptimaWorks();
        int[][] bad = {{0, 0, 1}, {4096, 0, 1}, {0, 4096, 1}, {-1, 0, 1}, {0, -1, 1}, {3, 2, 1}, {1, 0, -1}, {1, 0, 1001}};
        for (int[] b : bad) {
            c.badArgument("clause(" + b[0] + ", " + b[1] + ", " + b[2] + ")", () -> x.clause(b[0], b[1], b[2]));
        }
        truth(c, "none", x, 0, 0, 4096, 0, 0);
        for (int i = 0; i < 24; i++) {
            c.same("clause()", x.clause(1 << i % 12, 0, 1000), i);
        }
        c.badState("clause() number 24", () -> x.clause(1, 0, 1));
        c.badArgument("bad clause() number 24", () -> x.clause(0, 0, 1));
        truth(c, "all of 12", x, 0, 4095, 1, 0, 24);
        for (int i = 24; i > 0; i--) {
            c.same("truth(4)", x.truth(4), i);
            c.same("unsay()", x.unsay(), true);
        }
        c.same("unsay() of none", x.unsay(), false);
        truth(c, "none again", x, 0, 0, 4096, 0, 0);
        c.same("truth(5)", x.truth(5), NONE);
        c.same("truth(-1)", x.truth(-1), NONE);
    }

    private static void truths(Checks c) {
        OptimaWorks x = new OptimaWorks();
        x.clause(1, 0, 5);
        x.clause(0, 1, 3);
        truth(c, "0 or not", x, 3, 1, 0, 3, 2);
        x.clause(2, 1, 0);
        truth(c, "1 if 0", x, 3, 3, 0, 3, 3);
        x.clause(0, 2, 2);
        // 0 and 1: 3 + 2; neither: 5: the first one of those that cost 5.
        truth(c, "not 1", x, 5, 0, 0, 3, 4);
        x.clause(0, 1, 0);
        truth(c, "not 0 at all", x, 5, 0, 0, 3, 5);
        x.clause(1, 0, 0);
        truth(c, "none keeps those that must be", x, NONE, NONE, 0, 3, 6);
        x.unsay();
        truth(c, "unsaid", x, 5, 0, 0, 3, 5);
        OptimaWorks y = new OptimaWorks();
        y.clause(4, 8, 0);
        truth(c, "2 or not 3", y, 0, 0, 3072, 0, 1);
        y.clause(2048, 0, 7);
        truth(c, "and 11", y, 0, 2048, 1536, 0, 2);
    }

    private static void cores(Checks c) {
        OptimaWorks x = new OptimaWorks();
        x.clause(16, 0, 1);
        x.clause(1, 0, 1);
        x.clause(2, 1, 0);
        x.clause(0, 2, 1000);
        x.clause(0, 1, 1);
        // From the last on: not 0 can go, for 0, 1 if 0 and not 1 can't all be kept.
        truth(c, "core", x, 1, 16, 0, 0b01110, 5);
    }
}
