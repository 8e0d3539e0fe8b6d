import java.util.Random;

/** Promises 25 to 28, 32 and 35 to 40 on desks filled at random, against plain counting out. */
public final class DeskSearchTest {
    private static final Checks C = new Checks("DeskSearchTest");
    private static final int NONE = OptimaWorks.NONE;

    public static void main(String[] args) {
        Random random = new Random(20261116);
        for (int i = 0; i < 2000; i++) {
            new Values(random).check();
        }
        for (int i = 0; i < 40; i++) {
            new Clauses(random).check();
        }
        for (int i = 0; i < 300; i++) {
            new Nets(random).check();
        }
        for (int i = 0; i < 300; i++) {
            sums(random);
            crossings(random);
        }
        for (int i = 0; i < 100; i++) {
            fullNet(random);
        }
        C.finish();
    }

    /** Ten holders of few values each, some of them great: what a sum leaves of each. */
    private static void sums(Random random) {
        OptimaWorks x = new OptimaWorks();
        int[] domain = new int[10];
        for (int h = 0; h < 10; h++) {
            int high = 15 - random.nextInt(3);
            domain[h] = 1 << high | (random.nextInt(3) == 0 ? 1 << random.nextInt(16) : 0) | (random.nextInt(4) == 0 ? 1 : 0);
            x.holder(domain[h]);
        }
        int lo = 60 + random.nextInt(90);
        int hi = lo + random.nextInt(5);
        int set = 1 + random.nextInt(1023);
        x.rule(2, set, lo, hi);
        int[] found = new int[10];
        support(domain, set, new int[10], 0, lo, hi, found);
        for (int h = 0; h < 10; h++) {
            C.same("left() of a sum from " + lo + " to " + hi, x.left(h), found[h]);
        }
    }

    private static void support(int[] domain, int set, int[] row, int h, int lo, int hi, int[] found) {
        if (h == row.length) {
            int sum = 0;
            for (int i = 0; i < h; i++) {
                sum += (set >> i & 1) * row[i];
            }
            for (int i = 0; i < h && sum >= lo && sum <= hi; i++) {
                found[i] |= 1 << row[i];
            }
            return;
        }
        for (int v = 0; v < 16; v++) {
            if ((domain[h] >> v & 1) != 0) {
                row[h] = v;
                support(domain, set, row, h + 1, lo, hi, found);
            }
        }
    }

    /** Arcs of room 1 between seven nodes, so that ways cross and flows must be given up again. */
    private static void crossings(Random random) {
        int[][] arc = new int[12][];
        OptimaWorks x = new OptimaWorks();
        for (int i = 0; i < arc.length; i++) {
            int from = random.nextInt(6);
            int to = (from + 1 + random.nextInt(6)) % 7;
            arc[i] = new int[] {from, to, 1, random.nextInt(9)};
            x.arc(from, to, 1, arc[i][3]);
        }
        int[] cheapest = new int[arc.length + 1];
        java.util.Arrays.fill(cheapest, NONE);
        for (int bits = 0; bits < 1 << arc.length; bits++) {
            int[] over = new int[7];
            int cost = 0;
            for (int i = 0; i < arc.length; i++) {
                int f = bits >> i & 1;
                over[arc[i][0]] -= f;
                over[arc[i][1]] += f;
                cost += f * arc[i][3];
            }
            boolean flows = over[6] >= 0 && over[0] == -over[6];
            for (int n = 1; n < 6; n++) {
                flows = flows && over[n] == 0;
            }
            if (flows && (cheapest[over[6]] == NONE || cost < cheapest[over[6]])) {
                cheapest[over[6]] = cost;
            }
        }
        int greatest = 0;
        for (int amount = 0; amount < cheapest.length; amount++) {
            C.same("cheapest() of " + amount, x.cheapest(0, 6, amount), cheapest[amount]);
            greatest = cheapest[amount] == NONE ? greatest : amount;
        }
        C.same("greatest()", x.greatest(0, 6), greatest);
    }

    /** As many arcs and nodes as there may be: what flows is the least room out of a set of nodes, and the tree goes by ranks. */
    private static void fullNet(Random random) {
        int[][] arc = new int[40][];
        OptimaWorks x = new OptimaWorks();
        int most = random.nextInt(3) == 0 ? 1000 : 1 + random.nextInt(4);
        for (int i = 0; i < arc.length; i++) {
            int from = random.nextInt(12);
            int to = (from + 1 + random.nextInt(11)) % 12;
            arc[i] = new int[] {from, to, random.nextInt(most + 1), random.nextInt(20)};
            x.arc(from, to, arc[i][2], arc[i][3]);
        }
        int least = Integer.MAX_VALUE;
        int common = 0;
        for (int bits = 1; bits < 2048; bits += 2) {
            int room = 0;
            for (int[] a : arc) {
                room += (bits >> a[0] & 1) != 0 && (bits >> a[1] & 1) == 0 ? a[2] : 0;
            }
            common = room < least ? bits : room == least ? common & bits : common;
            least = Math.min(least, room);
        }
        C.same("greatest() of 40 arcs", x.greatest(0, 11), least);
        C.same("cut() of 40 arcs", x.cut(0, 11), common);
        C.same("tree() of 40 arcs", x.tree(), tree(arc));
    }

    /** An arc is of the tree if those ahead of it, by cost and number, do not join its ends. */
    private static long tree(int[][] arc) {
        long bits = 0;
        for (int i = 0; i < arc.length; i++) {
            int reached = 1 << arc[i][0];
            for (int turn = 0; turn < 12; turn++) {
                for (int j = 0; j < arc.length; j++) {
                    boolean ahead = arc[j][3] < arc[i][3] || arc[j][3] == arc[i][3] && j < i;
                    int ends = 1 << arc[j][0] | 1 << arc[j][1];
                    reached |= ahead && (reached & ends) != 0 ? ends : 0;
                }
            }
            bits |= (reached >> arc[i][1] & 1) == 0 ? 1L << i : 0;
        }
        return bits;
    }

    private static final class Values {
        private final OptimaWorks x = new OptimaWorks();
        private final int[] domain;
        private final int[][] rule;
        private final int[][] pairs;

        Values(Random random) {
            domain = new int[1 + random.nextInt(4)];
            for (int h = 0; h < domain.length; h++) {
                domain[h] = 1 + random.nextInt(31);
                x.holder(domain[h]);
            }
            rule = new int[random.nextInt(5)][];
            pairs = new int[rule.length][16];
            int[] told = new int[16];
            for (int r = 0; r < rule.length; r++) {
                int set = 1 + random.nextInt((1 << domain.length) - 1);
                int i = random.nextInt(domain.length);
                int j = random.nextInt(domain.length);
                int kind = random.nextInt(i == j ? 4 : 5);
                int v = random.nextInt(16);
                told[v % 5] = random.nextInt(65536);
                x.pair(v % 5, told[v % 5]);
                pairs[r] = told.clone();
                int[][] kinds = {{0, set, 0, 0}, {1, i, random.nextInt(5) - 2, j}, {2, set, random.nextInt(9), random.nextInt(13)},
                    {3, set, random.nextInt(3) - (v == 0 ? 1 : 0), random.nextInt(5)}, {4, i, j, 0}};
                rule[r] = kinds[kind];
                C.same("rule()", x.rule(rule[r][0], rule[r][1], rule[r][2], rule[r][3]), r);
            }
        }

        private boolean keeps(int r, int[] row) {
            int[] t = rule[r];
            if (t[0] == 1) {
                return row[t[1]] + t[2] <= row[t[3]];
            }
            if (t[0] == 4) {
                return (pairs[r][row[t[1]]] >> row[t[2]] & 1) != 0;
            }
            int sum = 0;
            int many = 0;
            int seen = 0;
            int members = 0;
            for (int h = 0; h < row.length; h++) {
                if ((t[1] >> h & 1) != 0) {
                    sum += row[h];
                    many += row[h] == t[3] ? 1 : 0;
                    seen |= 1 << row[h];
                    members++;
                }
            }
            return t[0] == 0 ? Integer.bitCount(seen) == members : t[0] == 2 ? sum >= t[2] && sum <= t[3] : many <= t[2];
        }

        private boolean isOf(int r, int h) {
            int[] t = rule[r];
            return t[0] == 1 ? h == t[1] || h == t[3] : t[0] == 4 ? h == t[1] || h == t[2] : (t[1] >> h & 1) != 0;
        }

        /** Values that are in a row out of these domains that keeps the rule. */
        private void support(int r, int[] now, int[] row, int h, int[] found) {
            if (h == now.length) {
                if (keeps(r, row)) {
                    for (int i = 0; i < row.length; i++) {
                        found[i] |= 1 << row[i];
                    }
                }
                return;
            }
            for (int v = 0; v < 16; v++) {
                if ((now[h] >> v & 1) != 0) {
                    row[h] = v;
                    support(r, now, row, h + 1, found);
                }
            }
        }

        private int[] left(int bits) {
            int[] now = domain.clone();
            for (boolean changed = true; changed;) {
                changed = false;
                for (int r = 0; r < rule.length; r++) {
                    if ((bits >> r & 1) != 0) {
                        int[] found = new int[now.length];
                        support(r, now, new int[now.length], 0, found);
                        for (int h = 0; h < now.length; h++) {
                            if (isOf(r, h) && found[h] != now[h]) {
                                now[h] = found[h];
                                changed = true;
                            }
                        }
                    }
                }
            }
            for (int n : now) {
                if (n == 0) {
                    return new int[now.length];
                }
            }
            return now;
        }

        void check() {
            int all = (1 << rule.length) - 1;
            int[] due = left(all);
            for (int h = 0; h < due.length; h++) {
                C.same("left()", x.left(h), due[h]);
                for (int v = 0; v < 5; v++) {
                    C.same("reason()", x.reason(h, v), reason(h, v, due[h], all));
                }
            }
            rows = 0;
            list(new int[domain.length], 0);
            C.same("listing()", x.listing(), rows);
        }

        private int reason(int h, int v, int due, int all) {
            if ((domain[h] >> v & 1) == 0 || (due >> v & 1) != 0) {
                return NONE;
            }
            int kept = all;
            for (int r = rule.length - 1; r >= 0; r--) {
                if ((left(kept & ~(1 << r))[h] >> v & 1) == 0) {
                    kept &= ~(1 << r);
                }
            }
            return kept;
        }

        private int rows;

        private void list(int[] row, int h) {
            if (h < row.length) {
                for (int v = 0; v < 16; v++) {
                    if ((domain[h] >> v & 1) != 0) {
                        row[h] = v;
                        list(row, h + 1);
                    }
                }
                return;
            }
            for (int r = 0; r < rule.length; r++) {
                if (!keeps(r, row)) {
                    return;
                }
            }
            for (int i = 0; i < row.length; i++) {
                C.same("listed()", x.listed(rows, i), row[i]);
            }
            rows++;
        }
    }

    private static final class Clauses {
        private final OptimaWorks x = new OptimaWorks();
        private final int[][] clause;

        Clauses(Random random) {
            clause = new int[random.nextInt(12)][];
            for (int i = 0; i < clause.length; i++) {
                int wants = random.nextInt(8) & random.nextInt(8);
                int not = random.nextInt(8) & ~wants;
                int weight = random.nextInt(4);
                clause[i] = new int[] {wants == 0 && not == 0 ? 2048 : wants, not, weight};
                x.clause(clause[i][0], not, weight);
            }
        }

        private boolean keeps(int row, int bits, int weight) {
            for (int i = 0; i < clause.length; i++) {
                boolean asked = (bits >> i & 1) != 0 && (weight == NONE || clause[i][2] == weight);
                if (asked && (row & clause[i][0]) == 0 && (~row & clause[i][1]) == 0) {
                    return false;
                }
            }
            return true;
        }

        private boolean canKeep(int bits) {
            for (int row = 0; row < 4096; row++) {
                if (keeps(row, bits, NONE)) {
                    return true;
                }
            }
            return false;
        }

        void check() {
            int all = (1 << clause.length) - 1;
            int least = NONE;
            int choice = NONE;
            int models = 0;
            for (int row = 0; row < 4096; row++) {
                int loss = 0;
                for (int i = 0; i < clause.length; i++) {
                    loss += keeps(row, 1 << i, NONE) ? 0 : clause[i][2];
                }
                if (keeps(row, all, 0) && (least == NONE || loss < least)) {
                    least = loss;
                    choice = row;
                }
                models += keeps(row, all, NONE) ? 1 : 0;
            }
            int core = canKeep(all) ? 0 : all;
            for (int i = clause.length - 1; i >= 0 && core != 0; i--) {
                core = canKeep(core & ~(1 << i)) ? core : core & ~(1 << i);
            }
            C.same("truth(0)", x.truth(0), least);
            C.same("truth(1)", x.truth(1), choice);
            C.same("truth(2)", x.truth(2), models);
            C.same("truth(3)", x.truth(3), core);
        }
    }

    private static final class Nets {
        private static final int NODES = 5;
        private final OptimaWorks x = new OptimaWorks();
        private final int[][] arc;
        private int least;
        private int fewest;
        private String first;
        private String firstTour;
        private int leastTour;

        Nets(Random random) {
            arc = new int[random.nextInt(13)][];
            for (int i = 0; i < arc.length; i++) {
                int from = random.nextInt(NODES);
                int to = (from + 1 + random.nextInt(NODES - 1)) % NODES;
                arc[i] = new int[] {from, to, random.nextInt(3), random.nextInt(4)};
                x.arc(from, to, arc[i][2], arc[i][3]);
            }
        }

        void check() {
            least = Integer.MAX_VALUE;
            first = "";
            walk(0, 1, 0, "0");
            C.same("path(), cost", x.path(0, 4, NONE - 1), first.isEmpty() ? NONE : least);
            C.same("path(), nodes", x.path(0, 4, NONE - 2), first.length());
            for (int i = 0; i < first.length(); i++) {
                C.same("path()", x.path(0, 4, i), first.charAt(i) - '0');
            }
            leastTour = NONE;
            firstTour = "";
            tour(0, 1, 0, "0");
            C.same("tour(), cost", x.tour(31, NONE - 1), leastTour);
            for (int i = 0; i < firstTour.length(); i++) {
                C.same("tour()", x.tour(31, i), firstTour.charAt(i) - '0');
            }
            int[] cheapest = new int[20];
            java.util.Arrays.fill(cheapest, NONE);
            flow(0, new int[NODES], 0, cheapest);
            int greatest = 0;
            for (int amount = 0; amount < cheapest.length; amount++) {
                C.same("cheapest()", x.cheapest(0, 4, amount), cheapest[amount]);
                greatest = cheapest[amount] == NONE ? greatest : amount;
            }
            C.same("greatest()", x.greatest(0, 4), greatest);
            cut(greatest);
        }

        /** Its room is what flows, and it holds no node that need not be in such a set. */
        private void cut(int greatest) {
            int least = 31;
            for (int bits = 0; bits < 32; bits++) {
                int room = 0;
                for (int[] a : arc) {
                    room += (bits >> a[0] & 1) != 0 && (bits >> a[1] & 1) == 0 ? a[2] : 0;
                }
                if ((bits & 17) == 1 && room == greatest) {
                    least &= bits;
                }
            }
            C.same("cut()", x.cut(0, 4), least);
        }

        private void walk(int node, int seen, int cost, String nodes) {
            if (node == 4) {
                boolean better = cost < least || cost == least && nodes.length() < fewest
                    || cost == least && nodes.length() == fewest && nodes.compareTo(first) < 0;
                if (better) {
                    least = cost;
                    fewest = nodes.length();
                    first = nodes;
                }
                return;
            }
            for (int[] a : arc) {
                if (a[0] == node && (seen >> a[1] & 1) == 0) {
                    walk(a[1], seen | 1 << a[1], cost + a[3], nodes + a[1]);
                }
            }
        }

        private void tour(int node, int seen, int cost, String nodes) {
            for (int[] a : arc) {
                if (a[0] == node && a[1] == 0 && seen == 31) {
                    int whole = cost + a[3];
                    if (leastTour == NONE || whole < leastTour || whole == leastTour && nodes.compareTo(firstTour) < 0) {
                        leastTour = whole;
                        firstTour = nodes;
                    }
                } else if (a[0] == node && (seen >> a[1] & 1) == 0) {
                    tour(a[1], seen | 1 << a[1], cost + a[3], nodes + a[1]);
                }
            }
        }

        private void flow(int i, int[] over, int cost, int[] cheapest) {
            if (i == arc.length) {
                if (over[1] == 0 && over[2] == 0 && over[3] == 0 && over[4] >= 0) {
                    int amount = over[4];
                    cheapest[amount] = cheapest[amount] == NONE ? cost : Math.min(cost, cheapest[amount]);
                }
                return;
            }
            for (int f = 0; f <= arc[i][2]; f++) {
                over[arc[i][0]] -= f;
                over[arc[i][1]] += f;
                flow(i + 1, over, cost + f * arc[i][3], cheapest);
                over[arc[i][0]] += f;
                over[arc[i][1]] -= f;
            }
        }
    }
}
