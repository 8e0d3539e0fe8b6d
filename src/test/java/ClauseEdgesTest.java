/** The edges of CLAUSES and of promises 30 to 32, a sentence of the document at a time. */
public final class ClauseEdgesTest {
    private static final int NONE = OptimaWorks.NONE;
    private static final int LEAST = Integer.MIN_VALUE;
    private static final int GREATEST = Integer.MAX_VALUE;
    private static final Checks C = new Checks("ClauseEdgesTest");

    public static void main(String[] args) {
        arguments();
        twentyFour();
        signs();
        unsays();
        kept();
        leasts();
        choices();
        models();
        cores();
        truths();
        C.finish();
    }

    /** Clauses one after the other: wants, wants not, weight. */
    private static OptimaWorks desk(int... told) {
        OptimaWorks x = new OptimaWorks();
        for (int i = 0; i < told.length; i += 3) {
            x.clause(told[i], told[i + 1], told[i + 2]);
        }
        return x;
    }

    private static void arguments() {
        C.sentence("IllegalArgumentException: bits beyond 12, no sign at all, one that is wanted both ways, or the weight.");
        int[][] bad = {{4096, 0, 1}, {0, 4096, 1}, {4097, 0, 1}, {-1, 0, 1}, {0, -1, 1}, {LEAST, 0, 1}, {0, LEAST, 1}, {GREATEST, 0, 1}, {0, GREATEST, 1},
            {0, 0, 1}, {0, 0, 0}, {1, 1, 1}, {3, 6, 1}, {2048, 2048, 1}, {4095, 1, 1}, {1, 4095, 1}, {1, 0, -1}, {1, 0, 1001}, {1, 0, LEAST}, {1, 0, GREATEST}};
        for (int[] b : bad) {
            C.badArgument("clause(" + b[0] + ", " + b[1] + ", " + b[2] + ")", () -> desk().clause(b[0], b[1], b[2]));
        }
        int[][] good = {{1, 0, 1}, {0, 1, 1}, {2048, 0, 1}, {0, 2048, 1}, {4095, 0, 1}, {0, 4095, 1}, {4094, 1, 1}, {1, 4094, 1}, {1, 0, 0}, {1, 0, 1000}};
        for (int[] g : good) {
            C.same("clause(" + g[0] + ", " + g[1] + ", " + g[2] + ")", desk().clause(g[0], g[1], g[2]), 0);
        }
    }

    private static void twentyFour() {
        C.sentence("IllegalStateException: there are 24.");
        OptimaWorks x = desk();
        for (int i = 0; i < 24; i++) {
            C.same("clause number " + i, x.clause(1, 0, 1000), i);
        }
        C.badState("clause number 24", () -> x.clause(1, 0, 1));
        C.same("clauses", x.truth(4), 24);
        C.badArgument("none such", () -> x.clause(0, 0, 1));
    }

    private static void signs() {
        C.sentence("SIGNS 0 .. 11; CLAUSES, at most 24, each with signs that it wants and signs that it wants not (bits), and a WEIGHT 0 .. 1000 (0: it must be kept).");
        for (int sign = 0; sign < 12; sign++) {
            C.same("wanted, sign " + sign, desk(1 << sign, 0, 1).truth(1), 1 << sign);
            C.same("not wanted, sign " + sign, desk(0, 1 << sign, 1, 4095, 0, 0).truth(1), sign == 0 ? 2 : 1);
        }
        C.badArgument("sign 12", () -> desk().clause(1 << 12, 0, 1));
        C.badArgument("not sign 12", () -> desk().clause(0, 1 << 12, 1));
        C.same("weight 1000", desk(1, 0, 1000, 0, 1, 0).truth(0), 1000);
        C.same("weight 0 must be kept", desk(1, 0, 0, 0, 1, 1000).truth(0), 1000);
        C.same("weight 1 need not be", desk(1, 0, 1, 0, 1, 1000).truth(0), 1);
    }

    private static void unsays() {
        C.sentence("The latest clause goes: whether there was one.");
        OptimaWorks x = desk();
        C.same("unsay() of none", x.unsay(), false);
        x.clause(1, 0, 3);
        x.clause(0, 1, 5);
        C.same("truth(0)", x.truth(0), 3);
        C.same("unsay()", x.unsay(), true);
        C.same("truth(4)", x.truth(4), 1);
        C.same("truth(0): the first stays", x.truth(0), 0);
        C.same("truth(1)", x.truth(1), 1);
        C.same("unsay() again", x.unsay(), true);
        C.same("truth(1)", x.truth(1), 0);
        C.same("unsay() of none", x.unsay(), false);
        C.same("clause() behind it", x.clause(1, 0, 0), 0);
        OptimaWorks full = desk();
        for (int i = 0; i < 24; i++) {
            full.clause(1, 0, 1);
        }
        full.unsay();
        C.same("clause number 23 again", full.clause(0, 1, 0), 23);
        C.same("truth(0): 23 are not kept", full.truth(0), 23);
        // One that must be kept goes, and with it that it must be.
        OptimaWorks must = desk(1, 0, 0);
        must.unsay();
        C.same("one of the same number", must.clause(1, 0, 7), 0);
        must.clause(0, 1, 0);
        C.same("truth(0): it need not be kept", must.truth(0), 7);
        C.same("truth(1)", must.truth(1), 0);
        must.unsay();
        must.unsay();
        must.clause(1, 0, 0);
        must.clause(0, 1, 0);
        C.same("truth(0): both must be", must.truth(0), NONE);
        for (int i = 1; i < 23; i++) {
            OptimaWorks later = desk();
            for (int k = 0; k < i; k++) {
                later.clause(2, 0, 1);
            }
            later.clause(1, 0, 0);
            later.unsay();
            C.same("clause number " + i + " again", later.clause(1, 0, 7), i);
            later.clause(0, 1, 0);
            C.same("truth(0): number " + i + " need not be kept", later.truth(0), 7);
        }
    }

    private static void kept() {
        C.sentence("A row of truths keeps a clause if one of its signs is as wanted.");
        // Wants 0 and 1, wants not 2: of eight rows of these just 100 does not keep it.
        C.same("one of three", desk(3, 4, 1).truth(2), 4096 / 8 * 7);
        C.same("the only row of all", desk(4095, 0, 1).truth(2), 4095);
        C.same("and the other one", desk(0, 4095, 1).truth(2), 4095);
        C.same("one sign", desk(2048, 0, 1).truth(2), 2048);
        C.same("one sign not", desk(0, 2048, 1).truth(2), 2048);
    }

    private static void leasts() {
        C.sentence("LEAST is the least sum of weights of clauses that are not kept, of all rows of truths that keep those of weight 0;");
        C.same("none", desk().truth(0), 0);
        C.same("all kept", desk(1, 0, 7, 2, 0, 9).truth(0), 0);
        C.same("the lesser of two", desk(1, 0, 7, 0, 1, 9).truth(0), 7);
        C.same("the other way round", desk(1, 0, 9, 0, 1, 7).truth(0), 7);
        C.same("weight 0 must be kept", desk(1, 0, 1000, 0, 1, 0).truth(0), 1000);
        C.same("weight 1 need not", desk(1, 0, 1000, 0, 1, 1).truth(0), 1);
        OptimaWorks most = desk(0, 1, 0);
        for (int i = 0; i < 23; i++) {
            most.clause(1, 0, 1000);
        }
        C.same("23 of 1000", most.truth(0), 23000);
        C.sentence("LEAST (what = 0; NONE if no row keeps those that must be), THE CHOICE (1; likewise)");
        OptimaWorks none = desk(1, 0, 0, 0, 1, 0);
        C.same("LEAST", none.truth(0), NONE);
        C.same("THE CHOICE", none.truth(1), NONE);
        none.unsay();
        C.same("LEAST, unsaid", none.truth(0), 0);
        C.same("THE CHOICE, unsaid", none.truth(1), 1);
    }

    private static void choices() {
        C.sentence("THE CHOICE the first row with it (as a number, sign 0 its lowest bit).");
        C.same("none", desk().truth(1), 0);
        C.same("sign 0", desk(1, 0, 1).truth(1), 1);
        C.same("sign 11", desk(2048, 0, 1).truth(1), 2048);
        C.same("all", desk(1, 0, 1, 2, 0, 1, 4, 0, 1, 8, 0, 1, 16, 0, 1, 32, 0, 1, 64, 0, 1, 128, 0, 1, 256, 0, 1, 512, 0, 1, 1024, 0, 1, 2048, 0, 1).truth(1), 4095);
        C.same("0 or 1, the first", desk(3, 0, 1).truth(1), 1);
        C.same("1 or 2, the first", desk(6, 0, 1).truth(1), 2);
        C.same("not 0 alone", desk(0, 1, 1).truth(1), 0);
        // 0 costs 5, 1 costs 5: both rows cost the same.
        C.same("of equal ones the first", desk(1, 0, 5, 0, 1, 5).truth(1), 0);
        C.same("the one that costs less, though later", desk(1, 0, 6, 0, 1, 5).truth(1), 1);
        C.same("must be kept", desk(4, 0, 0, 0, 4, 9).truth(1), 4);
    }

    private static void models() {
        C.sentence("MODELS: how many rows keep all clauses.");
        C.same("none", desk().truth(2), 4096);
        C.same("one sign", desk(1, 0, 5).truth(2), 2048);
        C.same("weights count nothing", desk(1, 0, 0).truth(2), 2048);
        C.same("both ways", desk(1, 0, 5, 0, 1, 5).truth(2), 0);
        C.same("all signs", desk(1, 0, 1, 2, 0, 1, 4, 0, 1, 8, 0, 1, 16, 0, 1, 32, 0, 1, 64, 0, 1, 128, 0, 1, 256, 0, 1, 512, 0, 1, 1024, 0, 1, 0, 2048, 1).truth(2), 1);
    }

    private static void cores() {
        C.sentence("clauses gone through from the last to the first, each left out if the rest can't be all kept; what stays.");
        C.same("two", desk(1, 0, 1, 0, 1, 1).truth(3), 3);
        C.same("the first of two alike", desk(1, 0, 1, 0, 1, 1, 1, 0, 1).truth(3), 3);
        C.same("the latter half goes", desk(1, 0, 1, 0, 1, 1, 2, 0, 1, 0, 2, 1).truth(3), 3);
        C.same("the former half can't be left out first", desk(2, 0, 1, 1, 0, 1, 0, 1, 1).truth(3), 6);
        C.same("a chain", desk(1, 0, 0, 2, 1, 0, 4, 2, 0, 0, 4, 0).truth(3), 15);
        C.same("a chain with one that is too much", desk(1, 0, 0, 2, 1, 0, 4, 2, 0, 8, 4, 0, 0, 4, 0).truth(3), 23);
        C.same("weights count nothing", desk(1, 0, 1000, 0, 1, 0).truth(3), 3);
        OptimaWorks full = desk();
        for (int i = 0; i < 12; i++) {
            full.clause(1 << i, 0, 1);
        }
        for (int i = 11; i >= 0; i--) {
            full.clause(0, 1 << i, 1);
        }
        C.same("sign 11 both ways is met last", full.truth(3), 1 << 11 | 1 << 12);
        C.sentence("the CORE as bits (3; 0 if all can be kept)");
        C.same("none", desk().truth(3), 0);
        C.same("all can be kept", desk(1, 0, 1, 2, 1, 1).truth(3), 0);
        C.same("one more, and not", desk(1, 0, 1, 2, 1, 1, 0, 2, 1).truth(3), 7);
        OptimaWorks first = desk();
        OptimaWorks latest = desk();
        for (int i = 0; i < 12; i++) {
            first.clause(0, 1 << i, 1);
            latest.clause(1 << i, 0, 1);
        }
        C.same("the first row alone keeps all", first.truth(3), 0);
        C.same("the first row alone is a model", first.truth(2), 1);
        C.same("the last row alone keeps all", latest.truth(3), 0);
        C.same("the last row alone is a model", latest.truth(2), 1);
        first.clause(4095, 0, 1);
        C.same("and not the first row", first.truth(3), 8191);
        latest.clause(0, 4095, 1);
        C.same("and not the last row", latest.truth(3), 8191);
        OptimaWorks last = desk();
        for (int i = 0; i < 23; i++) {
            last.clause(1, 0, 1);
        }
        last.clause(0, 1, 1);
        C.same("clause 23", last.truth(3), 1 | 1 << 23);
    }

    private static void truths() {
        C.sentence("MODELS (2), the CORE as bits (3; 0 if all can be kept), clauses (4). NONE for another what.");
        OptimaWorks x = desk(1, 0, 1);
        C.same("truth(4)", x.truth(4), 1);
        C.same("truth(4) of none", desk().truth(4), 0);
        int[] others = {-1, 5, LEAST, GREATEST};
        for (int what : others) {
            C.same("truth(" + what + ")", x.truth(what), NONE);
            C.same("truth(" + what + ") of none", desk().truth(what), NONE);
        }
    }
}
