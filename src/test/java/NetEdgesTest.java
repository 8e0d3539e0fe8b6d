/** The edges of NETS and of promises 33 to 40, a sentence of the document at a time. */
public final class NetEdgesTest {
    private static final int NONE = OptimaWorks.NONE;
    private static final int LEAST = Integer.MIN_VALUE;
    private static final int GREATEST = Integer.MAX_VALUE;
    private static final Checks C = new Checks("NetEdgesTest");

    public static void main(String[] args) {
        arguments();
        forty();
        unarcs();
        nodes();
        flows();
        cuts();
        costs();
        backOver();
        ways();
        wayCalls();
        trees();
        tours();
        tourCalls();
        C.finish();
    }

    /** Arcs one after the other: from, to, room, cost. */
    private static OptimaWorks net(int... told) {
        OptimaWorks x = new OptimaWorks();
        for (int i = 0; i < told.length; i += 4) {
            x.arc(told[i], told[i + 1], told[i + 2], told[i + 3]);
        }
        return x;
    }

    private static void arguments() {
        C.sentence("IllegalArgumentException: a node, room or cost is none, or from is to.");
        int[][] bad = {{-1, 0, 1, 1}, {12, 0, 1, 1}, {LEAST, 0, 1, 1}, {GREATEST, 0, 1, 1}, {0, -1, 1, 1}, {0, 12, 1, 1}, {0, LEAST, 1, 1}, {0, GREATEST, 1, 1},
            {0, 0, 1, 1}, {11, 11, 1, 1}, {0, 1, -1, 1}, {0, 1, 1001, 1}, {0, 1, LEAST, 1}, {0, 1, GREATEST, 1}, {0, 1, 1, -1}, {0, 1, 1, 1001}, {0, 1, 1, LEAST},
            {0, 1, 1, GREATEST}, {12, 12, 1, 1}, {-1, -1, 1, 1}};
        for (int[] b : bad) {
            C.badArgument("arc(" + b[0] + ", " + b[1] + ", " + b[2] + ", " + b[3] + ")", () -> net().arc(b[0], b[1], b[2], b[3]));
        }
        int[][] good = {{0, 11, 0, 0}, {11, 0, 1000, 1000}, {0, 1, 0, 1000}, {10, 11, 1000, 0}};
        for (int[] g : good) {
            C.same("arc(" + g[0] + ", " + g[1] + ", " + g[2] + ", " + g[3] + ")", net().arc(g[0], g[1], g[2], g[3]), 0);
        }
    }

    private static void forty() {
        C.sentence("NODES 0 .. 11; ARCS, at most 40, from a node to another one, with ROOM 0 .. 1000 and COST 0 .. 1000.");
        for (int n = 0; n < 12; n++) {
            OptimaWorks y = net(n, (n + 5) % 12, 1000, 1000);
            C.same("room of " + n, y.greatest(n, (n + 5) % 12), 1000);
            C.same("cost of " + n, y.path(n, (n + 5) % 12, NONE - 1), 1000);
            int node = n;
            C.badArgument("from " + n + " to itself", () -> y.arc(node, node, 1, 1));
        }
        C.sentence("IllegalStateException: there are 40.");
        OptimaWorks x = net();
        for (int i = 0; i < 40; i++) {
            C.same("arc number " + i, x.arc(0, 1, 1, 1), i);
        }
        C.badState("arc number 40", () -> x.arc(0, 1, 1, 1));
        C.same("nothing came", x.greatest(0, 1), 40);
        C.badArgument("none such", () -> x.arc(0, 0, 1, 1));
    }

    private static void unarcs() {
        C.sentence("The latest arc goes: whether there was one.");
        OptimaWorks x = net();
        C.same("unarc() of none", x.unarc(), false);
        x.arc(0, 1, 3, 1);
        x.arc(0, 1, 5, 1);
        C.same("greatest(0, 1)", x.greatest(0, 1), 8);
        C.same("unarc()", x.unarc(), true);
        C.same("greatest(0, 1): the first stays", x.greatest(0, 1), 3);
        C.same("arc() behind it", x.arc(0, 1, 1, 1), 1);
        x.unarc();
        C.same("unarc() again", x.unarc(), true);
        C.same("greatest(0, 1)", x.greatest(0, 1), 0);
        C.same("unarc() of none", x.unarc(), false);
        OptimaWorks full = net();
        for (int i = 0; i < 40; i++) {
            full.arc(0, 1, 1, 1);
        }
        full.unarc();
        C.same("arc number 39 again", full.arc(0, 1, 1, 1), 39);
        // What went counts nowhere, and what comes instead does.
        OptimaWorks ring = net(0, 1, 3, 5, 1, 0, 3, 6);
        int[][] gone = {{0, 1, 9, 1}, {1, 0, 9, 1}, {0, 2, 9, 1}, {2, 1, 9, 1}};
        for (int[] g : gone) {
            ring.arc(g[0], g[1], g[2], g[3]);
            ring.unarc();
            ringOfTwo("behind " + g[0] + "-" + g[1], ring);
        }
        ring.arc(0, 2, 9, 1);
        ring.arc(2, 1, 9, 1);
        C.same("both there, cost", ring.path(0, 1, NONE - 1), 2);
        ring.unarc();
        C.same("one there, cost", ring.path(0, 1, NONE - 1), 5);
        C.same("one there, tree()", ring.tree(), 5);
        ring.unarc();
        ringOfTwo("behind both", ring);
        OptimaWorks equal = net(0, 3, 0, 1, 3, 9, 0, 1, 1, 9, 0, 1, 0, 1, 0, 1);
        C.same("over 1, as cheap", equal.path(0, 9, 1), 1);
        equal.unarc();
        C.same("over 3, for the arc to 1 went", equal.path(0, 9, 1), 3);
    }

    /** All that a net of 0-1 with room 3 and cost 5 and of 1-0 with room 3 and cost 6 answers. */
    private static void ringOfTwo(String what, OptimaWorks x) {
        C.same("greatest(0, 1) " + what, x.greatest(0, 1), 3);
        C.same("greatest(0, 2) " + what, x.greatest(0, 2), 0);
        C.same("cut(0, 1) " + what, x.cut(0, 1), 1);
        C.same("cut(0, 2) " + what, x.cut(0, 2), 3);
        C.same("cheapest(0, 1, 3) " + what, x.cheapest(0, 1, 3), 15);
        C.same("cheapest(0, 1, 4) " + what, x.cheapest(0, 1, 4), NONE);
        C.same("path(0, 1), cost " + what, x.path(0, 1, NONE - 1), 5);
        C.same("path(0, 1), nodes " + what, x.path(0, 1, NONE - 2), 2);
        C.same("path(1, 0), cost " + what, x.path(1, 0, NONE - 1), 6);
        C.same("path(0, 2), nodes " + what, x.path(0, 2, NONE - 2), 0);
        C.same("tree() " + what, x.tree(), 1);
        C.same("tour(3), cost " + what, x.tour(3, NONE - 1), 11);
        C.same("tour(7), cost " + what, x.tour(7, NONE - 1), NONE);
    }

    private static void nodes() {
        C.sentence("GREATEST from s to t. IndexOutOfBoundsException: a node is none. IllegalArgumentException: s is t.");
        OptimaWorks x = net(0, 11, 7, 2);
        int[][] none = {{-1, 0}, {0, -1}, {12, 0}, {0, 12}, {LEAST, 0}, {0, LEAST}, {GREATEST, 0}, {0, GREATEST}, {-1, -1}, {12, 12}};
        for (int[] n : none) {
            C.badIndex("greatest(" + n[0] + ", " + n[1] + ")", () -> x.greatest(n[0], n[1]));
            C.badIndex("cut(" + n[0] + ", " + n[1] + ")", () -> x.cut(n[0], n[1]));
            C.badIndex("cheapest(" + n[0] + ", " + n[1] + ", 1)", () -> x.cheapest(n[0], n[1], 1));
            C.badIndex("cheapest(" + n[0] + ", " + n[1] + ", -1)", () -> x.cheapest(n[0], n[1], -1));
            C.badIndex("path(" + n[0] + ", " + n[1] + ", 0)", () -> x.path(n[0], n[1], 0));
            C.badIndex("path(" + n[0] + ", " + n[1] + ", -9)", () -> x.path(n[0], n[1], -9));
        }
        for (int n = 0; n < 12; n++) {
            int node = n;
            C.badArgument("greatest(" + n + ", " + n + ")", () -> x.greatest(node, node));
            C.badArgument("cut(" + n + ", " + n + ")", () -> x.cut(node, node));
            C.badArgument("cheapest(" + n + ", " + n + ", -1)", () -> x.cheapest(node, node, -1));
            C.badArgument("path(" + n + ", " + n + ", 0)", () -> x.path(node, node, 0));
        }
        C.same("greatest(0, 11)", x.greatest(0, 11), 7);
        C.same("greatest(11, 0)", x.greatest(11, 0), 0);
        C.same("cheapest(0, 11, 7)", x.cheapest(0, 11, 7), 14);
        C.same("path(0, 11, 1)", x.path(0, 11, 1), 11);
    }

    private static void flows() {
        C.sentence("A FLOW from s to t: whole numbers for arcs, at most their room, that balance at all others.");
        C.same("the lesser room", net(0, 1, 5, 0, 1, 2, 3, 0).greatest(0, 2), 3);
        C.same("room 0", net(0, 1, 5, 0, 1, 2, 0, 0).greatest(0, 2), 0);
        C.same("room 1000", net(0, 1, 1000, 0, 1, 2, 1000, 0).greatest(0, 2), 1000);
        C.same("an arc back counts nothing", net(0, 1, 5, 0, 1, 2, 3, 0, 2, 1, 9, 0).greatest(0, 2), 3);
        C.same("no arcs", net().greatest(3, 4), 0);
        C.sentence("GREATEST: what comes out of s, less what comes in, at most.");
        C.same("what comes in again counts off", net(0, 1, 5, 0, 1, 0, 5, 0, 1, 2, 2, 0).greatest(0, 2), 2);
        C.same("several ways", net(0, 1, 2, 0, 1, 3, 2, 0, 0, 2, 3, 0, 2, 3, 1, 0, 0, 3, 4, 0).greatest(0, 3), 7);
        // The plain way 0-1-2-3 must give way.
        C.same("another way instead", net(0, 1, 1, 0, 1, 2, 1, 0, 2, 3, 1, 0, 0, 2, 1, 0, 1, 3, 1, 0).greatest(0, 3), 2);
    }

    private static void cuts() {
        C.sentence("THE CUT, nodes as bits. Exceptions likewise.");
        C.same("node 11", net().cut(11, 0), 1 << 11);
        C.same("node 0", net().cut(0, 11), 1);
        C.badIndex("cut(12, 0)", () -> net().cut(12, 0));
        C.badArgument("cut(3, 3)", () -> net().cut(3, 3));
        C.sentence("THE CUT: the nodes that can be reached from s over what a greatest flow leaves (arcs not full, and back over arcs with flow; the same for each such flow).");
        C.same("a full arc", net(0, 1, 5, 0).cut(0, 1), 1);
        C.same("s alone", net(0, 1, 3, 0, 1, 2, 3, 0).cut(0, 2), 1);
        C.same("up to the full one", net(0, 1, 4, 0, 1, 2, 3, 0).cut(0, 2), 3);
        C.same("no arcs", net().cut(7, 3), 1 << 7);
        C.same("those that lead nowhere", net(11, 10, 1, 0, 10, 9, 1, 0).cut(11, 0), 7 << 9);
        C.same("room 0 leads nowhere", net(11, 10, 0, 0).cut(11, 0), 1 << 11);
        // 0-1 is not full; from 2 the flow comes back to 3.
        C.same("back over flow", net(0, 3, 2, 0, 3, 2, 2, 0, 2, 5, 2, 0, 0, 2, 1, 0).cut(0, 5), 1 | 1 << 2 | 1 << 3);
        C.same("not back over an arc without flow", net(0, 2, 2, 0, 2, 5, 1, 0, 3, 2, 2, 0).cut(0, 5), 5);
    }

    private static void costs() {
        C.sentence("CHEAPEST for an amount; NONE if there is no such flow (also for one below 0).");
        OptimaWorks x = net(0, 1, 2, 3, 0, 1, 1, 1, 0, 2, 1, 0, 2, 1, 5, 1000);
        int[] due = {0, 1, 4, 7, 1007};
        for (int amount = 0; amount < due.length; amount++) {
            C.same("cheapest of " + amount, x.cheapest(0, 1, amount), due[amount]);
        }
        int[] none = {5, 1000, GREATEST, -1, LEAST};
        for (int amount : none) {
            C.same("cheapest of " + amount, x.cheapest(0, 1, amount), NONE);
        }
        C.same("0 without arcs", net().cheapest(0, 1, 0), 0);
        C.same("1 without arcs", net().cheapest(0, 1, 1), NONE);
        C.same("-1 without arcs", net().cheapest(0, 1, -1), NONE);
        C.sentence("CHEAPEST: the least cost of a flow of an amount (each arc's flow times cost).");
        C.same("two arcs", net(0, 1, 9, 2, 1, 2, 9, 3).cheapest(0, 2, 9), 45);
        C.same("cost 0", net(0, 1, 1000, 0).cheapest(0, 1, 1000), 0);
        OptimaWorks most = net();
        for (int i = 0; i < 40; i++) {
            most.arc(0, 1, 1000, 1000);
        }
        C.same("all of 40", most.cheapest(0, 1, 40000), 40000000);
        C.same("more than all", most.cheapest(0, 1, 40001), NONE);
        // The cheapest way for one must be given up for two.
        C.same("one", net(0, 1, 1, 1, 1, 2, 1, 0, 2, 3, 1, 1, 0, 2, 1, 4, 1, 3, 1, 4).cheapest(0, 3, 1), 2);
        C.same("two", net(0, 1, 1, 1, 1, 2, 1, 0, 2, 3, 1, 1, 0, 2, 1, 4, 1, 3, 1, 4).cheapest(0, 3, 2), 10);
    }

    /** The arcs with other names for the nodes, and told from another one on. */
    private static OptimaWorks renamed(int[] names, int start, int... told) {
        int[] moved = new int[told.length];
        for (int i = 0; i < told.length; i += 4) {
            int at = (i + 4 * start) % told.length;
            moved[at] = names[told[i]];
            moved[at + 1] = names[told[i + 1]];
            moved[at + 2] = told[i + 2];
            moved[at + 3] = told[i + 3];
        }
        return net(moved);
    }

    /** Whichever way a flow takes first, it must be given up in part: node names and the order of arcs count nothing. */
    private static void backOver() {
        int[] crossed = {0, 1, 1, 1, 1, 3, 1, 1, 3, 5, 1, 1, 0, 2, 1, 5, 2, 3, 1, 0, 1, 4, 1, 0, 4, 5, 1, 5};
        int[] full = {0, 1, 1, 0, 1, 3, 1, 0, 3, 5, 1, 0, 0, 2, 1, 0, 2, 3, 1, 0};
        int[] costly = {0, 1, 1, 1, 1, 2, 1, 1, 2, 3, 1, 1, 0, 2, 1, 5, 1, 3, 1, 5, 0, 1, 1, 20, 2, 3, 1, 20};
        // Another arc to 1 costs less than 0-2-1 if going back cost something, but more than it does cost.
        int[] dearer = {0, 1, 1, 1, 1, 2, 1, 1, 2, 3, 1, 1, 0, 2, 1, 5, 1, 3, 1, 5, 0, 1, 1, 5};
        for (int shift = 0; shift < 6; shift++) {
            for (int turned = 0; turned < 2; turned++) {
                int[] names = new int[6];
                for (int i = 0; i < 6; i++) {
                    names[i] = 3 + (turned == 0 ? i + shift : 11 - i + shift) % 6;
                }
                for (int start = 0; start < 7; start++) {
                    C.sentence("GREATEST: what comes out of s, less what comes in, at most.");
                    OptimaWorks x = renamed(names, start, crossed);
                    C.same("0-1-3-5 gives way to 0-1-4-5 and 0-2-3-5", x.greatest(names[0], names[5]), 2);
                    C.same("s alone is cut off", x.cut(names[0], names[5]), 1 << names[0]);
                    C.sentence("and back over arcs with flow; the same for each such flow");
                    int due = 1 << names[0] | 1 << names[1] | 1 << names[2] | 1 << names[3];
                    C.same("either way is left by the other", renamed(names, start, full).cut(names[0], names[5]), due);
                    C.sentence("CHEAPEST: the least cost of a flow of an amount (each arc's flow times cost).");
                    int[] two = {0, 3, 12, NONE};
                    for (int amount = 0; amount < two.length; amount++) {
                        C.same("crossed, " + amount, x.cheapest(names[0], names[5], amount), two[amount]);
                    }
                    OptimaWorks z = renamed(names, start, dearer);
                    int[] most = {0, 3, 12, NONE};
                    for (int amount = 0; amount < most.length; amount++) {
                        C.same("dearer, " + amount, z.cheapest(names[0], names[3], amount), most[amount]);
                    }
                    OptimaWorks y = renamed(names, start, costly);
                    int[] three = {0, 3, 12, 53, NONE};
                    for (int amount = 0; amount < three.length; amount++) {
                        C.same("costly, " + amount, y.cheapest(names[0], names[3], amount), three[amount]);
                    }
                }
            }
        }
    }

    private static void way(String what, OptimaWorks x, int s, int t, int cost, int... due) {
        C.same(what + ", cost", x.path(s, t, NONE - 1), cost);
        C.same(what + ", nodes", x.path(s, t, NONE - 2), due.length);
        for (int i = 0; i < due.length; i++) {
            C.same(what + ", node " + i, x.path(s, t, i), due[i]);
        }
        C.same(what + ", behind the last", x.path(s, t, due.length), NONE);
    }

    private static void ways() {
        C.sentence("A WAY from s to t: the nodes of a row of arcs of least cost, of these the one with the fewest arcs, of these the one whose nodes come first.");
        way("one arc", net(0, 1, 0, 5), 0, 1, 5, 0, 1);
        way("the cheaper of two", net(0, 1, 0, 5, 0, 1, 0, 4), 0, 1, 4, 0, 1);
        way("cheaper, though more arcs", net(0, 9, 0, 5, 0, 1, 0, 2, 1, 9, 0, 2), 0, 9, 4, 0, 1, 9);
        way("as cheap: fewer arcs", net(0, 9, 0, 4, 0, 1, 0, 2, 1, 9, 0, 2), 0, 9, 4, 0, 9);
        way("as many arcs: nodes that come first", net(0, 8, 0, 2, 8, 9, 0, 2, 0, 3, 0, 1, 3, 9, 0, 3), 0, 9, 4, 0, 3, 9);
        way("first by the first node that differs", net(0, 1, 0, 1, 1, 8, 0, 1, 8, 11, 0, 1, 0, 2, 0, 1, 2, 3, 0, 1, 3, 11, 0, 1), 0, 11, 3, 0, 1, 8, 11);
        way("cost 0, fewest arcs", net(0, 1, 0, 0, 1, 2, 0, 0, 2, 3, 0, 0, 0, 3, 0, 0), 0, 3, 0, 0, 3);
        way("the greatest cost", net(0, 1, 0, 1000), 0, 1, 1000, 0, 1);
        way("none", net(0, 1, 0, 5), 1, 0, NONE);
        way("no arcs", net(), 1, 0, NONE);
        OptimaWorks chain = net();
        for (int i = 0; i < 11; i++) {
            chain.arc(i, i + 1, 0, 1000);
        }
        way("all nodes", chain, 0, 11, 11000, 0, 1, 2, 3, 4, 5, 6, 7, 8, 9, 10, 11);
        chain.arc(0, 11, 0, 1000);
        way("the greatest cost, fewer arcs", chain, 0, 11, 1000, 0, 11);
    }

    private static void wayCalls() {
        C.sentence("node i (from 0 on); NONE if there is none such, or no way; its cost (i = NONE - 1), how many nodes (i = NONE - 2; 0 without).");
        OptimaWorks x = net(3, 4, 0, 7);
        int[][] due = {{0, 3}, {1, 4}, {2, NONE}, {12, NONE}, {GREATEST, NONE}, {NONE, NONE}, {NONE - 1, 7}, {NONE - 2, 2}, {NONE - 3, NONE}, {LEAST, NONE}};
        for (int[] d : due) {
            C.same("path(3, 4, " + d[0] + ")", x.path(3, 4, d[0]), d[1]);
        }
        int[][] none = {{0, NONE}, {1, NONE}, {NONE, NONE}, {NONE - 1, NONE}, {NONE - 2, 0}, {NONE - 3, NONE}, {LEAST, NONE}, {GREATEST, NONE}};
        for (int[] d : none) {
            C.same("path(4, 3, " + d[0] + "), no way", x.path(4, 3, d[0]), d[1]);
        }
    }

    private static void trees() {
        C.sentence("Of the TREE: its arcs as bits.");
        OptimaWorks bits = net();
        for (int i = 0; i < 36; i++) {
            bits.arc(0, 1, 0, 1000);
        }
        for (int i = 36; i < 40; i++) {
            bits.arc(i - 30, i - 29, 0, i);
            C.same("tree() of " + (i + 1), bits.tree(), 1 | (1L << i + 1) - (1L << 36));
        }
        C.sentence("A TREE: arcs, taken as lines both ways, by cost, of equal ones by number, each that joins what is not joined yet.");
        C.same("no arcs", net().tree(), 0);
        C.same("one", net(0, 1, 0, 0).tree(), 1);
        C.same("both ways", net(0, 1, 0, 5, 1, 0, 0, 5).tree(), 1);
        C.same("the cheaper one", net(0, 1, 0, 5, 1, 0, 0, 4).tree(), 2);
        C.same("a ring of equal ones", net(0, 1, 0, 5, 1, 2, 0, 5, 2, 0, 0, 5).tree(), 3);
        C.same("a ring, the dearest is left", net(0, 1, 0, 6, 1, 2, 0, 5, 2, 0, 0, 5).tree(), 6);
        C.same("two parts", net(0, 1, 0, 6, 2, 3, 0, 5, 1, 0, 0, 7).tree(), 3);
        C.same("two parts joined by a dear one", net(0, 1, 0, 6, 2, 3, 0, 5, 3, 0, 0, 1000, 2, 1, 0, 1000).tree(), 7);
        OptimaWorks last = net();
        for (int i = 0; i < 39; i++) {
            last.arc(0, 1, 0, 9);
        }
        last.arc(1, 0, 0, 8);
        C.same("arc 39 alone", last.tree(), 1L << 39);
        OptimaWorks chain = net();
        for (int i = 0; i < 11; i++) {
            chain.arc(i + 1, i, 0, 1000 - i);
        }
        chain.arc(0, 11, 0, 1000);
        C.same("eleven join all", chain.tree(), 2047);
    }

    private static void tour(String what, OptimaWorks x, int nodes, int cost, int... due) {
        C.same(what + ", cost", x.tour(nodes, NONE - 1), cost);
        for (int i = 0; i < due.length; i++) {
            C.same(what + ", node " + i, x.tour(nodes, i), due[i]);
        }
        C.same(what + ", behind the last", x.tour(nodes, due.length), NONE);
    }

    private static void tours() {
        C.sentence("A TOUR of a set of nodes with at most 8:");
        OptimaWorks all = net();
        for (int i = 0; i < 12; i++) {
            all.arc(i, (i + 1) % 12, 0, 1);
        }
        for (int i = 1; i < 12; i++) {
            all.arc(i, 0, 0, 10);
        }
        for (int many = 2; many <= 8; many++) {
            C.same("tour of " + many, all.tour((1 << many) - 1, NONE - 1), many + 9);
        }
        C.badArgument("tour of 9", () -> all.tour(511, NONE - 1));
        C.badArgument("tour of 1", () -> all.tour(1, NONE - 1));
        C.sentence("a row of all of them, from the least one, whose arcs (of several between two the cheapest, back to the first, too) cost least, of these the one that comes first.");
        tour("two", net(0, 1, 0, 3, 1, 0, 0, 4), 3, 7, 0, 1);
        tour("no way back", net(0, 1, 0, 3), 3, NONE);
        tour("no way there", net(1, 0, 0, 3), 3, NONE);
        tour("the cheapest between two", net(0, 1, 0, 3, 1, 0, 0, 4, 0, 1, 0, 2, 1, 0, 0, 1), 3, 3, 0, 1);
        tour("from the least one", net(11, 5, 0, 1, 5, 11, 0, 1), 1 << 5 | 1 << 11, 2, 5, 11);
        int[] ring = {0, 1, 0, 1, 1, 2, 0, 1, 2, 0, 0, 1, 0, 2, 0, 1, 2, 1, 0, 1, 1, 0, 0, 1};
        tour("of equal ones the first", net(ring), 7, 3, 0, 1, 2);
        ring[3] = 2;
        tour("the cheaper one, though later", net(ring), 7, 3, 0, 2, 1);
        // All rows cost nothing: no node comes twice, and the first row is the one in order.
        OptimaWorks free = net();
        for (int i = 0; i < 36; i++) {
            if (i / 6 != i % 6) {
                free.arc(5 - i / 6, 5 - i % 6, 0, 0);
            }
        }
        tour("all cost nothing", free, 63, 0, 0, 1, 2, 3, 4, 5);
        tour("four that cost nothing", free, 0b110101, 0, 0, 2, 4, 5);
        tour("over others is no arc", net(0, 3, 0, 1, 3, 1, 0, 1, 1, 0, 0, 1), 3, NONE);
        OptimaWorks eight = net();
        for (int i = 0; i < 8; i++) {
            eight.arc(i + 4, (i + 1) % 8 + 4, 0, 1000);
        }
        tour("eight", eight, 0xff0, 8000, 4, 5, 6, 7, 8, 9, 10, 11);
        tour("seven of a ring of eight", eight, 0x7f0, NONE);
    }

    private static void tourCalls() {
        C.sentence("IllegalArgumentException: bits beyond 12, fewer than 2 or more than 8 nodes.");
        OptimaWorks x = net(0, 1, 0, 3, 1, 0, 0, 4);
        int[] bad = {0, 1, 2048, 4096, 4097, 4099, 511, 4095, 0x1ff, 0xff8, -1, LEAST, LEAST | 3, GREATEST};
        for (int nodes : bad) {
            C.badArgument("tour(" + nodes + ", 0)", () -> x.tour(nodes, 0));
            C.badArgument("tour(" + nodes + ", -9)", () -> x.tour(nodes, -9));
        }
        int[] good = {6, 0xff, 0xff0, 0xc00, 0x801};
        for (int nodes : good) {
            C.same("tour(" + nodes + ", 0), no tour", x.tour(nodes, 0), NONE);
        }
        C.sentence("node i; NONE if there is none such, or no tour; its cost (i = NONE - 1).");
        int[][] due = {{0, 0}, {1, 1}, {2, NONE}, {8, NONE}, {GREATEST, NONE}, {NONE, NONE}, {NONE - 1, 7}, {NONE - 2, NONE}, {LEAST, NONE}};
        for (int[] d : due) {
            C.same("tour(3, " + d[0] + ")", x.tour(3, d[0]), d[1]);
            C.same("tour(6, " + d[0] + "), no tour", x.tour(6, d[0]), NONE);
        }
    }
}
