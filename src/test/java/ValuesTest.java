/** Promises 22 to 29: holder, rule, pair, left, listing, listed, reason, clear. */
public final class ValuesTest {
    private static final int NONE = OptimaWorks.NONE;

    public static void main(String[] args) {
        Checks c = new Checks("ValuesTest");
        holders(c);
        rules(c);
        pairs(c);
        different(c);
        order(c);
        sum(c);
        most(c);
        lefts(c);
        listings(c);
        reasons(c);
        cleared(c);
        c.finish();
    }

    private static OptimaWorks desk(int... domains) {
        OptimaWorks x = new OptimaWorks();
        for (int domain : domains) {
            x.holder(domain);
        }
        return x;
    }

    private static void left(Checks c, String what, OptimaWorks x, int... due) {
        for (int h = 0; h < due.length; h++) {
            c.same(what + ": left(" + h + ")", x.left(h), due[h]);
        }
    }

    private static void holders(Checks c) {
        OptimaWorks x = new OptimaWorks();
        c.badArgument("holder(0)", () -> x.holder(0));
        c.badArgument("holder(65536)", () -> x.holder(65536));
        c.badArgument("holder(-1)", () -> x.holder(-1));
        for (int i = 0; i < 10; i++) {
            c.same("holder()", x.holder(1 << i), i);
        }
        c.badState("holder() number 11", () -> x.holder(1));
        c.badArgument("holder(0) number 11", () -> x.holder(0));
        c.same("left(9)", x.left(9), 512);
        c.same("left(10)", x.left(10), NONE);
        c.same("left(-1)", x.left(-1), NONE);
        c.same("holder(65535)", desk().holder(65535), 0);
    }

    private static void rules(Checks c) {
        OptimaWorks x = desk(7, 7, 7);
        int[][] bad = {{-1, 1, 1, 1}, {5, 1, 1, 1}, {0, 0, 0, 0}, {0, 8, 0, 0}, {0, -1, 0, 0}, {1, 3, 0, 0}, {1, 0, 0, 3},
            {1, -1, 0, 0}, {1, 0, 16, 1}, {1, 0, -16, 1}, {2, 0, 0, 5}, {2, 8, 0, 5}, {2, 1, -201, 5}, {2, 1, 0, 201},
            {3, 0, 1, 1}, {3, 8, 1, 1}, {3, 1, 201, 1}, {3, 1, -201, 1}, {3, 1, 1, 16}, {3, 1, 1, -1},
            {4, 0, 0, 0}, {4, 0, 3, 0}, {4, -1, 0, 0}};
        for (int[] r : bad) {
            c.badArgument("rule(" + r[0] + ", " + r[1] + ", " + r[2] + ", " + r[3] + ")", () -> x.rule(r[0], r[1], r[2], r[3]));
        }
        int[][] good = {{0, 7, -9, 99}, {1, 0, 15, 1}, {1, 2, -15, 2}, {2, 5, -200, 200}, {2, 1, 200, -200}, {3, 7, 200, 15},
            {3, 1, -200, 0}, {4, 0, 2, 77}, {0, 1, 0, 0}, {0, 1, 0, 0}, {0, 1, 0, 0}, {0, 1, 0, 0}};
        for (int i = 0; i < good.length; i++) {
            c.same("rule number " + i, x.rule(good[i][0], good[i][1], good[i][2], good[i][3]), i);
        }
        c.badState("rule number 12", () -> x.rule(0, 1, 0, 0));
        c.badArgument("bad rule number 12", () -> x.rule(0, 8, 0, 0));
    }

    private static void pairs(Checks c) {
        OptimaWorks x = desk(15, 15, 15);
        c.same("pair(-1, 0)", x.pair(-1, 0), false);
        c.same("pair(16, 0)", x.pair(16, 0), false);
        c.same("pair(0, -1)", x.pair(0, -1), false);
        c.same("pair(0, 65536)", x.pair(0, 65536), false);
        c.same("pair(0, 2)", x.pair(0, 2), true);
        c.same("pair(15, 65535)", x.pair(15, 65535), true);
        c.same("pair(3, 12)", x.pair(3, 12), true);
        c.same("pair(3, 65536)", x.pair(3, 65536), false);
        x.rule(4, 0, 1, 0);
        left(c, "pairs 0-1, 3-2, 3-3", x, 9, 14, 15);
        // What is told later is not of a rule that is there.
        x.pair(0, 1);
        x.pair(3, 0);
        left(c, "pairs told later", x, 9, 14, 15);
        x.rule(4, 2, 0, 0);
        left(c, "pairs 0-0", x, 1, 2, 1);
        OptimaWorks y = desk(15, 15);
        y.rule(4, 0, 1, 0);
        left(c, "no pairs", y, 0, 0);
    }

    private static void different(Checks c) {
        OptimaWorks x = desk(3, 3, 15, 4);
        x.rule(0, 7, 0, 0);
        left(c, "two of two", x, 3, 3, 12, 4);
        x.rule(0, 15, 0, 0);
        left(c, "and one of one", x, 3, 3, 8, 4);
        OptimaWorks y = desk(3, 3, 3, 65535);
        y.rule(0, 7, 0, 0);
        left(c, "three of two", y, 0, 0, 0, 0);
        OptimaWorks z = desk(7, 7, 7, 31, 31);
        z.rule(0, 31, 0, 0);
        left(c, "three of three", z, 7, 7, 7, 24, 24);
        OptimaWorks one = desk(6);
        one.rule(0, 1, 0, 0);
        left(c, "one alone", one, 6);
    }

    private static void order(Checks c) {
        OptimaWorks x = desk(15, 15);
        x.rule(1, 0, 2, 1);
        left(c, "0 and 2 at most 1", x, 3, 12);
        OptimaWorks y = desk(15, 15);
        y.rule(1, 0, -1, 1);
        left(c, "0 and -1 at most 1", y, 15, 15);
        OptimaWorks z = desk(8, 15);
        z.rule(1, 0, -1, 1);
        left(c, "3 and -1 at most 1", z, 8, 12);
        OptimaWorks self = desk(15, 1);
        self.rule(1, 0, 0, 0);
        left(c, "itself", self, 15, 1);
        self.rule(1, 0, 1, 0);
        left(c, "less than itself", self, 0, 0);
        OptimaWorks circle = desk(65535, 65535, 65535);
        circle.rule(1, 0, 1, 1);
        circle.rule(1, 1, 1, 2);
        left(c, "a chain", circle, 0x3fff, 0x7ffe, 0xfffc);
        circle.rule(1, 2, 1, 0);
        left(c, "a circle", circle, 0, 0, 0);
    }

    private static void sum(Checks c) {
        OptimaWorks x = desk(0b1001, 0b10001, 2);
        x.rule(2, 3, 4, 6);
        left(c, "holes count", x, 1, 16, 2);
        OptimaWorks y = desk(15, 15, 15);
        y.rule(2, 7, 8, 200);
        left(c, "at least 8", y, 12, 12, 12);
        OptimaWorks z = desk(15, 15, 15);
        z.rule(2, 7, -200, 1);
        left(c, "at most 1", z, 3, 3, 3);
        z.rule(2, 7, 2, 1);
        left(c, "none", z, 0, 0, 0);
        OptimaWorks far = desk(32768, 32768, 32768, 32768, 32768, 32768, 32768, 32768, 32768, 65535);
        far.rule(2, 1023, 149, 200);
        left(c, "149 of 150", far, 32768, 32768, 32768, 32768, 32768, 32768, 32768, 32768, 32768, 0xc000);
        OptimaWorks exact = desk(8, 0b100100);
        exact.rule(2, 3, 5, 5);
        left(c, "3 and 2", exact, 8, 4);
        OptimaWorks nought = desk(9, 1, 0b101100);
        nought.rule(2, 7, 5, 5);
        left(c, "0, 0 and 5, or 3, 0 and 2", nought, 9, 1, 0b100100);
        OptimaWorks sixtyFour = desk(32768, 32768, 32768, 32768, 0b10011, 0b1001);
        sixtyFour.rule(2, 63, 64, 64);
        left(c, "64: 4 and 0, or 1 and 3", sixtyFour, 32768, 32768, 32768, 32768, 0b10010, 0b1001);
        OptimaWorks far128 = desk(32768, 32768, 32768, 32768, 32768, 32768, 32768, 32768, 0b100000011, 0b10000001);
        far128.rule(2, 1023, 128, 128);
        left(c, "128: 8 and 0, or 1 and 7", far128, 32768, 32768, 32768, 32768, 32768, 32768, 32768, 32768, 0b100000010, 0b10000001);
        OptimaWorks parity = desk(5, 5, 5, 15);
        parity.rule(2, 15, 3, 3);
        left(c, "an odd sum", parity, 5, 5, 5, 10);
    }

    private static void most(Checks c) {
        OptimaWorks x = desk(2, 3, 6, 2);
        x.rule(3, 7, 1, 1);
        left(c, "one has it", x, 2, 1, 4, 2);
        OptimaWorks y = desk(3, 3);
        y.rule(3, 3, 1, 1);
        left(c, "one may have it", y, 3, 3);
        y.rule(3, 3, 0, 0);
        left(c, "none of 0, one of 1", y, 0, 0);
        OptimaWorks z = desk(3);
        z.rule(3, 1, -1, 9);
        left(c, "fewer than none", z, 0);
        OptimaWorks two = desk(2, 2, 3);
        two.rule(3, 7, 1, 1);
        left(c, "two have it", two, 0, 0, 0);
    }

    private static void lefts(Checks c) {
        OptimaWorks x = desk(15, 15, 15, 1);
        x.rule(0, 7, 0, 0);
        x.rule(1, 0, 1, 1);
        x.rule(1, 1, 1, 2);
        left(c, "again and again", x, 3, 6, 12, 1);
        x.rule(2, 1, 1, 1);
        left(c, "one more rule", x, 2, 4, 8, 1);
        x.holder(8);
        c.same("a holder more", x.left(4), 8);
        x.rule(0, 24, 0, 0);
        x.rule(3, 16, 0, 3);
        left(c, "one is empty", x, 0, 0, 0, 0, 0);
    }

    private static void listings(Checks c) {
        OptimaWorks x = desk(7, 5, 3);
        c.same("listing() without rules", x.listing(), 12);
        c.same("listed(0, 2)", x.listed(0, 2), 0);
        c.same("listed(1, 2)", x.listed(1, 2), 1);
        c.same("listed(2, 1)", x.listed(2, 1), 2);
        c.same("listed(11, 0)", x.listed(11, 0), 2);
        c.same("listed(12, 0)", x.listed(12, 0), NONE);
        x.rule(0, 3, 0, 0);
        x.rule(2, 7, 0, 2);
        // Rows: 0 2 0, 1 0 0, 1 0 1, 2 0 0.
        int[][] due = {{0, 2, 0}, {1, 0, 0}, {1, 0, 1}, {2, 0, 0}};
        c.same("listing()", x.listing(), due.length);
        for (int k = 0; k < due.length; k++) {
            for (int h = 0; h < 3; h++) {
                c.same("listed(" + k + ", " + h + ")", x.listed(k, h), due[k][h]);
            }
        }
        c.same("listed(4, 0)", x.listed(4, 0), NONE);
        c.same("listed(-1, 0)", x.listed(-1, 0), NONE);
        c.same("listed(0, 3)", x.listed(0, 3), NONE);
        c.same("listed(0, -1)", x.listed(0, -1), NONE);
        x.rule(3, 4, 0, 0);
        c.same("listing(), one rule more", x.listing(), 1);
        c.same("listed(0, 0)", x.listed(0, 0), 1);
        x.rule(1, 0, 5, 1);
        c.same("listing(), none", x.listing(), 0);
        c.same("listed(0, 0), none", x.listed(0, 0), NONE);
        OptimaWorks empty = desk();
        c.same("listing() without holders", empty.listing(), 1);
        c.same("listed(0, 0) without holders", empty.listed(0, 0), NONE);
        OptimaWorks big = desk(65535, 65535, 65535);
        c.same("listing() of 4096", big.listing(), 4096);
        c.same("listed(4095, 2)", big.listed(4095, 2), 15);
        big.holder(15);
        c.same("listing() of 16384", big.listing(), 5000);
        c.same("listed(4999, 3)", big.listed(4999, 3), 3);
        c.same("listed(4999, 0)", big.listed(4999, 0), 4);
        c.same("listed(5000, 0)", big.listed(5000, 0), NONE);
        big.holder(3);
        c.same("listing() of 32768", big.listing(), NONE);
        c.same("listed(0, 0) of nothing", big.listed(0, 0), NONE);
        OptimaWorks edge = desk(65535, 65535, 1023, 255);
        c.same("listing() of 20480", edge.listing(), NONE);
        OptimaWorks pairs = desk(3, 3);
        pairs.pair(1, 1);
        pairs.rule(4, 0, 1, 0);
        pairs.rule(1, 1, 1, 0);
        c.same("listing() of pairs", pairs.listing(), 1);
        c.same("listed(0, 0) of pairs", pairs.listed(0, 0), 1);
        c.same("listed(0, 1) of pairs", pairs.listed(0, 1), 0);
    }

    private static void reasons(Checks c) {
        OptimaWorks x = desk(15, 15, 14);
        c.same("reason(0, 0), left", x.reason(0, 0), NONE);
        c.same("reason(2, 0), not there at first", x.reason(2, 0), NONE);
        x.rule(0, 7, 0, 0);
        x.rule(1, 0, 1, 1);
        x.rule(1, 0, 1, 1);
        x.rule(1, 1, 1, 2);
        c.same("reason(0, 3): the first of two rules alike", x.reason(0, 3), 2);
        c.same("reason(0, 2)", x.reason(0, 2), 10);
        c.same("reason(0, 1), left", x.reason(0, 1), NONE);
        c.same("reason(3, 0)", x.reason(3, 0), NONE);
        c.same("reason(-1, 0)", x.reason(-1, 0), NONE);
        c.same("reason(0, 16)", x.reason(0, 16), NONE);
        c.same("reason(0, -1)", x.reason(0, -1), NONE);
        x.rule(2, 1, 9, 9);
        c.same("reason(1, 2): all are empty", x.reason(1, 2), 16);
        c.same("left(1)", x.left(1), 0);
    }

    private static void cleared(Checks c) {
        OptimaWorks x = desk(15, 15);
        x.pair(1, 4);
        x.rule(0, 3, 0, 0);
        c.same("listing()", x.listing(), 12);
        x.clear();
        c.same("left(0)", x.left(0), NONE);
        c.same("listing()", x.listing(), 1);
        c.badArgument("rule()", () -> x.rule(0, 1, 0, 0));
        c.same("holder()", x.holder(15), 0);
        c.same("holder()", x.holder(15), 1);
        left(c, "no rules", x, 15, 15);
        c.same("rule()", x.rule(4, 0, 1, 0), 0);
        left(c, "pairs stay", x, 2, 4);
    }
}
