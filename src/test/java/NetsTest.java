/** Promises 33 to 40: arc, unarc, greatest, cut, cheapest, path, tree, tour. */
public final class NetsTest {
    private static final int NONE = OptimaWorks.NONE;

    public static void main(String[] args) {
        Checks c = new Checks("NetsTest");
        arcs(c);
        flows(c);
        costs(c);
        paths(c);
        trees(c);
        tours(c);
        nodes(c);
        c.finish();
    }

    private static OptimaWorks net(int[]... arcs) {
        OptimaWorks x = new OptimaWorks();
        for (int[] a : arcs) {
            x.arc(a[0], a[1], a[2], a[3]);
        }
        return x;
    }

    private static void arcs(Checks c) {
        OptimaWorks x = new OptimaWorks();
        int[][] bad = {{-1, 0, 1, 1}, {12, 0, 1, 1}, {0, -1, 1, 1}, {0, 12, 1, 1}, {3, 3, 1, 1}, {0, 1, -1, 1}, {0, 1, 1001, 1},
            {0, 1, 1, -1}, {0, 1, 1, 1001}};
        for (int[] a : bad) {
            c.badArgument("arc(" + a[0] + ", " + a[1] + ", " + a[2] + ", " + a[3] + ")", () -> x.arc(a[0], a[1], a[2], a[3]));
        }
        c.same("unarc() of none", x.unarc(), false);
        for (int i = 0; i < 40; i++) {
            c.same("arc()", x.arc(0, 11, 1000, 1000), i);
        }
        c.badState("arc() number 40", () -> x.arc(0, 1, 1, 1));
        c.badArgument("bad arc() number 40", () -> x.arc(0, 0, 1, 1));
        c.same("greatest of 40", x.greatest(0, 11), 40000);
        c.same("cheapest of 40", x.cheapest(0, 11, 40000), 40000000);
        c.same("cheapest of more", x.cheapest(0, 11, 40001), NONE);
        c.same("unarc()", x.unarc(), true);
        c.same("greatest of 39", x.greatest(0, 11), 39000);
        c.same("arc() again", x.arc(11, 0, 0, 0), 39);
    }

    private static void flows(Checks c) {
        OptimaWorks x = net(new int[] {0, 1, 1, 0}, new int[] {0, 2, 1, 0}, new int[] {1, 2, 1, 0}, new int[] {1, 3, 1, 0},
            new int[] {2, 3, 1, 0}, new int[] {3, 0, 5, 0});
        c.same("greatest(0, 3)", x.greatest(0, 3), 2);
        c.same("cut(0, 3)", x.cut(0, 3), 1);
        c.same("greatest(3, 0)", x.greatest(3, 0), 5);
        c.same("cut(3, 0)", x.cut(3, 0), 8);
        c.same("greatest(3, 2)", x.greatest(3, 2), 2);
        c.same("cut(3, 2)", x.cut(3, 2), 9);
        c.same("greatest(0, 7)", x.greatest(0, 7), 0);
        c.same("cut(0, 7)", x.cut(0, 7), 15);
        x.arc(0, 1, 3, 0);
        c.same("cut(0, 3), room in 0-1", x.cut(0, 3), 7);
        // The cut goes back over an arc with flow.
        OptimaWorks y = net(new int[] {0, 1, 2, 0}, new int[] {1, 2, 1, 0}, new int[] {3, 1, 9, 0}, new int[] {0, 3, 9, 0});
        c.same("greatest(0, 2)", y.greatest(0, 2), 1);
        c.same("cut(0, 2)", y.cut(0, 2), 11);
        OptimaWorks none = net(new int[] {0, 1, 0, 0});
        c.same("greatest() without room", none.greatest(0, 1), 0);
        c.same("cut() without room", none.cut(0, 1), 1);
    }

    private static void costs(Checks c) {
        // The second unit must push the first one back off 1-2.
        OptimaWorks x = net(new int[] {0, 1, 1, 1}, new int[] {0, 2, 1, 5}, new int[] {1, 2, 1, 1}, new int[] {1, 3, 1, 5},
            new int[] {2, 3, 1, 1});
        c.same("cheapest of 1", x.cheapest(0, 3, 1), 3);
        c.same("cheapest of 2", x.cheapest(0, 3, 2), 12);
        c.same("cheapest of 3", x.cheapest(0, 3, 3), NONE);
        c.same("cheapest of 0", x.cheapest(0, 3, 0), 0);
        c.same("cheapest of -1", x.cheapest(0, 3, -1), NONE);
        c.same("cheapest of least int", x.cheapest(0, 3, Integer.MIN_VALUE), NONE);
        c.same("cheapest of greatest int", x.cheapest(0, 3, Integer.MAX_VALUE), NONE);
        c.same("cheapest of 0 without a way", x.cheapest(3, 0, 0), 0);
        OptimaWorks y = net(new int[] {4, 5, 3, 7}, new int[] {4, 5, 2, 3}, new int[] {4, 5, 9, 10});
        c.same("parallel arcs", y.cheapest(4, 5, 7), 2 * 3 + 3 * 7 + 2 * 10);
    }

    private static void path(Checks c, OptimaWorks x, int s, int t, int cost, int... due) {
        c.same("path(" + s + ", " + t + "), cost", x.path(s, t, NONE - 1), cost);
        c.same("path(" + s + ", " + t + "), nodes", x.path(s, t, NONE - 2), due.length);
        for (int i = 0; i < due.length; i++) {
            c.same("path(" + s + ", " + t + ", " + i + ")", x.path(s, t, i), due[i]);
        }
        c.same("behind the last", x.path(s, t, due.length), NONE);
        c.same("path(NONE)", x.path(s, t, NONE), NONE);
        c.same("path(NONE - 3)", x.path(s, t, NONE - 3), NONE);
    }

    private static void paths(Checks c) {
        OptimaWorks x = net(new int[] {0, 5, 1, 4}, new int[] {0, 1, 0, 2}, new int[] {1, 5, 0, 2});
        path(c, x, 0, 5, 4, 0, 5);
        x.arc(0, 3, 0, 1);
        x.arc(3, 5, 0, 2);
        path(c, x, 0, 5, 3, 0, 3, 5);
        x.arc(0, 2, 0, 2);
        x.arc(2, 5, 0, 1);
        path(c, x, 0, 5, 3, 0, 2, 5);
        path(c, x, 5, 0, NONE);
        // A way of fewer arcs, though its nodes come later; costs 0 do not make it turn.
        OptimaWorks y = net(new int[] {0, 1, 1, 0}, new int[] {1, 2, 1, 0}, new int[] {2, 1, 1, 0}, new int[] {2, 9, 1, 0},
            new int[] {0, 8, 1, 0}, new int[] {8, 9, 1, 0});
        path(c, y, 0, 9, 0, 0, 8, 9);
        path(c, y, 1, 9, 0, 1, 2, 9);
        OptimaWorks chain = new OptimaWorks();
        for (int i = 11; i > 0; i--) {
            chain.arc(i, i - 1, 0, 1000);
        }
        path(c, chain, 11, 0, 11000, 11, 10, 9, 8, 7, 6, 5, 4, 3, 2, 1, 0);
    }

    private static void trees(Checks c) {
        OptimaWorks x = net(new int[] {0, 1, 0, 5}, new int[] {1, 2, 0, 3}, new int[] {2, 0, 0, 3}, new int[] {2, 1, 0, 3},
            new int[] {4, 3, 0, 9});
        c.same("tree()", x.tree(), 0b10110);
        x.arc(0, 3, 0, 1000);
        c.same("tree() with one more", x.tree(), 0b110110);
        x.arc(3, 4, 0, 0);
        c.same("tree() with a cheaper one", x.tree(), 0b1100110);
        OptimaWorks y = new OptimaWorks();
        for (int i = 0; i < 39; i++) {
            y.arc(0, 1, 0, 2);
        }
        y.arc(5, 6, 0, 1);
        c.same("tree() beyond an int", y.tree(), 1L | 1L << 39);
    }

    private static void tour(Checks c, OptimaWorks x, int nodes, int cost, int... due) {
        c.same("tour(" + nodes + "), cost", x.tour(nodes, NONE - 1), cost);
        for (int i = 0; i < due.length; i++) {
            c.same("tour(" + nodes + ", " + i + ")", x.tour(nodes, i), due[i]);
        }
        c.same("behind the last", x.tour(nodes, due.length), NONE);
        c.same("tour(NONE)", x.tour(nodes, NONE), NONE);
        c.same("tour(NONE - 2)", x.tour(nodes, NONE - 2), NONE);
    }

    private static void tours(Checks c) {
        OptimaWorks x = net(new int[] {2, 7, 0, 4}, new int[] {7, 2, 0, 5}, new int[] {2, 7, 0, 3});
        tour(c, x, 1 << 2 | 1 << 7, 8, 2, 7);
        tour(c, x, 1 << 2 | 1 << 6, NONE);
        x.arc(7, 4, 0, 1);
        tour(c, x, 1 << 2 | 1 << 4 | 1 << 7, NONE);
        x.arc(4, 2, 0, 1);
        tour(c, x, 1 << 2 | 1 << 4 | 1 << 7, 5, 2, 7, 4);
        x.arc(2, 4, 0, 0);
        x.arc(4, 7, 0, 0);
        tour(c, x, 1 << 2 | 1 << 4 | 1 << 7, 5, 2, 4, 7);
        OptimaWorks all = new OptimaWorks();
        for (int i = 0; i < 8; i++) {
            all.arc(i + 4, (i + 5) % 12 < 4 ? 4 : i + 5, 0, 1000);
        }
        tour(c, all, 0xff0, 8000, 4, 5, 6, 7, 8, 9, 10, 11);
        c.badArgument("tour(0)", () -> x.tour(0, 0));
        c.badArgument("tour(16)", () -> x.tour(16, 0));
        c.badArgument("tour(511)", () -> x.tour(511, 0));
        c.badArgument("tour(4097)", () -> x.tour(4097, 0));
        c.badArgument("tour(-1)", () -> x.tour(-1, 0));
        c.badArgument("tour(least int and 1)", () -> x.tour(Integer.MIN_VALUE | 1, 0));
    }

    private static void nodes(Checks c) {
        OptimaWorks x = net(new int[] {0, 1, 1, 1});
        int[][] none = {{-1, 0}, {0, 12}, {12, 12}, {-1, -1}};
        for (int[] n : none) {
            c.badIndex("greatest()", () -> x.greatest(n[0], n[1]));
            c.badIndex("cut()", () -> x.cut(n[0], n[1]));
            c.badIndex("cheapest()", () -> x.cheapest(n[0], n[1], -1));
            c.badIndex("path()", () -> x.path(n[0], n[1], 0));
        }
        c.badArgument("greatest(3, 3)", () -> x.greatest(3, 3));
        c.badArgument("cut(3, 3)", () -> x.cut(3, 3));
        c.badArgument("cheapest(3, 3)", () -> x.cheapest(3, 3, 0));
        c.badArgument("path(3, 3)", () -> x.path(3, 3, 0));
    }
}
