import java.util.Random;

/** Promises 25 to 28, 32, 35 to 38 and 40 on desks filled at random, against plain counting out. */
public final class DeskSearchTest {
    private static final Checks C = new Checks("DeskSearchTest");
    private static final int NONE = OptimaWorks.NONE;

    public static void main(String[] args) {
        Random random = new Random(20261116);
        for (int i = 0; i < 2000; i++) {
            new Values(random).check();
        }
        for (int i = 0; i < 40; i++) {
            new Clauses(random).check();
        }
        for (int i = 0; i < 300; i++) {
            new Nets(random).check();
        }
        C.finish();
    }

    private static final class Values {
        private final OptimaWorks x = new OptimaWorks();
        private final int[] domain;
        private final int[][] rule;
        private final int[][] pairs;

        Values(Random random) {
            domain = new int[1 + random.nextInt(4)];
            for (int h = 0; h < domain.length; h++) {
                domain[h] = 1 + random.nextInt(31);
                x.holder(domain[h]);
            }
            rule = new int[random.nextInt(5)][];
            pairs = new int[rule.length][16];
            int[] told = new int[16];
            for (int r = 0; r < rule.length; r++) {
                int set = 1 + random.nextInt((1 << domain.length) - 1);
                int i = random.nextInt(domain.length);
                int j = random.nextInt(domain.length);
                int kind = random.nextInt(i == j ? 4 : 5);
                int v = random.nextInt(16);
                told[v % 5] = random.nextInt(65536);
                x.pair(v % 5, told[v % 5]);
                pairs[r] = told.clone();
                int[][] kinds = {{0, set, 0, 0}, {1, i, random.nextInt(5) - 2, j}, {2, set, random.nextInt(9), random.nextInt(13)},
                    {3, set, random.nextInt(3) - (v == 0 ? 1 : 0), random.nextInt(5)}, {4, i, j, 0}};
                rule[r] = kinds[kind];
                C.same("rule()", x.rule(rule[r][0], rule[r][1], rule[r][2], rule[r][3]), r);
            }
        }

        private boolean keeps(int r, int[] row) {
            int[] t = rule[r];
            if (t[0] == 1) {
                return row[t[1]] + t[2] <= row[t[3]];
            }
            if (t[0] == 4) {
                return (pairs[r][row[t[1]]] >> row[t[2]] & 1) != 0;
            }
            int sum = 0;
            int many = 0;
            int seen = 0;
            int members = 0;
            for (int h = 0; h < row.length; h++) {
                if ((t[1] >> h & 1) != 0) {
                    sum += row[h];
                    many += row[h] == t[3] ? 1 : 0;
                    seen |= 1 << row[h];
                    members++;
                }
            }
            return t[0] == 0 ? Integer.bitCount(seen) == members : t[0] == 2 ? sum >= t[2] && sum <= t[3] : many <= t[2];
        }

        private boolean isOf(int r, int h) {
            int[] t = rule[r];
            return t[0] == 1 ? h == t[1] || h == t[3] : t[0] == 4 ? h == t[1] || h == t[2] : (t[1] >> h & 1) != 0;
        }

        /** Values that are in a row out of these domains that keeps the rule. */
        private void support(int r, int[] now, int[] row, int h, int[] found) {
            if (h == now.length) {
                if (keeps(r, row)) {
                    for (int i = 0; i < row.length; i++) {
                        found[i] |= 1 << row[i];
                    }
                }
                return;
            }
            for (int v = 0; v < 16; v++) {
                if ((now[h] >> v & 1) != 0) {
                    row[h] = v;
                    support(r, now, row, h + 1, found);
                }
            }
        }

        private int[] left(int bits) {
            int[] now = domain.clone();
            for (boolean changed = true; changed;) {
                changed = false;
                for (int r = 0; r < rule.length; r++) {
                    if ((bits >> r & 1) != 0) {
                        int[] found = new int[now.length];
                        support(r, now, new int[now.length], 0, found);
                        for (int h = 0; h < now.length; h++) {
                            if (isOf(r, h) && found[h] != now[h]) {
                                now[h] = found[h];
                                changed = true;
                            }
                        }
                    }
                }
            }
            for (int n : now) {
                if (n == 0) {
                    return new int[now.length];
                }
            }
            return now;
        }

        void check() {
            int all = (1 << rule.length) - 1;
            int[] due = left(all);
            for (int h = 0; h < due.length; h++) {
                C.same("left()", x.left(h), due[h]);
                for (int v = 0; v < 5; v++) {
                    C.same("reason()", x.reason(h, v), reason(h, v, due[h], all));
                }
            }
            rows = 0;
            list(new int[domain.length], 0);
            C.same("listing()", x.listing(), rows);
        }

        private int reason(int h, int v, int due, int all) {
            if ((domain[h] >> v & 1) == 0 || (due >> v & 1) != 0) {
                return NONE;
            }
            int kept = all;
            for (int r = rule.length - 1; r >= 0; r--) {
                if ((left(kept & ~(1 << r))[h] >> v & 1) == 0) {
                    kept &= ~(1 << r);
                }
            }
            return kept;
        }

        private int rows;

        private void list(int[] row, int h) {
            if (h < row.length) {
                for (int v = 0; v < 16; v++) {
                    if ((domain[h] >> v & 1) != 0) {
                        row[h] = v;
                        list(row, h + 1);
                    }
                }
                return;
            }
            for (int r = 0; r < rule.length; r++) {
                if (!keeps(r, row)) {
                    return;
                }
            }
            for (int i = 0; i < row.length; i++) {
                C.same("listed()", x.listed(rows, i), row[i]);
            }
            rows++;
        }
    }

    private static final class Clauses {
        private final OptimaWorks x = new OptimaWorks();
        private final int[][] clause;

        Clauses(Random random) {
            clause = new int[random.nextInt(12)][];
            for (int i = 0; i < clause.length; i++) {
                int wants = random.nextInt(8) & random.nextInt(8);
                int not = random.nextInt(8) & ~wants;
                int weight = random.nextInt(4);
                clause[i] = new int[] {wants == 0 && not == 0 ? 2048 : wants, not, weight};
                x.clause(clause[i][0], not, weight);
            }
        }

        private boolean keeps(int row, int bits, int weight) {
            for (int i = 0; i < clause.length; i++) {
                boolean asked = (bits >> i & 1) != 0 && (weight == NONE || clause[i][2] == weight);
                if (asked && (row & clause[i][0]) == 0 && (~row & clause[i][1]) == 0) {
                    return false;
                }
            }
            return true;
        }

        private boolean canKeep(int bits) {
            for (int row = 0; row < 4096; row++) {
                if (keeps(row, bits, NONE)) {
                    return true;
                }
            }
            return false;
        }

        void check() {
            int all = (1 << clause.length) - 1;
            int least = NONE;
            int choice = NONE;
            int models = 0;
            for (int row = 0; row < 4096; row++) {
                int loss = 0;
                for (int i = 0; i < clause.length; i++) {
                    loss += keeps(row, 1 << i, NONE) ? 0 : clause[i][2];
                }
                if (keeps(row, all, 0) && (least == NONE || loss < least)) {
                    least = loss;
                    choice = row;
                }
                models += keeps(row, all, NONE) ? 1 : 0;
            }
            int core = canKeep(all) ? 0 : all;
            for (int i = clause.length - 1; i >= 0 && core != 0; i--) {
                core = canKeep(core & ~(1 << i)) ? core : core & ~(1 << i);
            }
            C.same("truth(0)", x.truth(0), least);
            C.same("truth(1)", x.truth(1), choice);
            C.same("truth(2)", x.truth(2), models);
            C.same("truth(3)", x.truth(3), core);
        }
    }

    private static final class Nets {
        private static final int NODES = 5;
        private final OptimaWorks x = new OptimaWorks();
        private final int[][] arc;
        private int least;
        private int fewest;
        private String first;
        private String firstTour;
        private int leastTour;

        Nets(Random random) {
            arc = new int[random.nextInt(13)][];
            for (int i = 0; i < arc.length; i++) {
                int from = random.nextInt(NODES);
                int to = (from + 1 + random.nextInt(NODES - 1)) % NODES;
                arc[i] = new int[] {from, to, random.nextInt(3), random.nextInt(4)};
                x.arc(from, to, arc[i][2], arc[i][3]);
            }
        }

        void check() {
            least = Integer.MAX_VALUE;
            first = "";
            walk(0, 1, 0, "0");
            C.same("path(), cost", x.path(0, 4, NONE - 1), first.isEmpty() ? NONE : least);
            C.same("path(), nodes", x.path(0, 4, NONE - 2), first.length());
            for (int i = 0; i < first.length(); i++) {
                C.same("path()", x.path(0, 4, i), first.charAt(i) - '0');
            }
            leastTour = NONE;
            firstTour = "";
            tour(0, 1, 0, "0");
            C.same("tour(), cost", x.tour(31, NONE - 1), leastTour);
            for (int i = 0; i < firstTour.length(); i++) {
                C.same("tour()", x.tour(31, i), firstTour.charAt(i) - '0');
            }
            int[] cheapest = new int[20];
            java.util.Arrays.fill(cheapest, NONE);
            flow(0, new int[NODES], 0, cheapest);
            int greatest = 0;
            for (int amount = 0; amount < cheapest.length; amount++) {
                C.same("cheapest()", x.cheapest(0, 4, amount), cheapest[amount]);
                greatest = cheapest[amount] == NONE ? greatest : amount;
            }
            C.same("greatest()", x.greatest(0, 4), greatest);
            cut(greatest);
        }

        /** Its room is what flows, and it holds no node that need not be in such a set. */
        private void cut(int greatest) {
            int least = 31;
            for (int bits = 0; bits < 32; bits++) {
                int room = 0;
                for (int[] a : arc) {
                    room += (bits >> a[0] & 1) != 0 && (bits >> a[1] & 1) == 0 ? a[2] : 0;
                }
                if ((bits & 17) == 1 && room == greatest) {
                    least &= bits;
                }
            }
            C.same("cut()", x.cut(0, 4), least);
        }

        private void walk(int node, int seen, int cost, String nodes) {
            if (node == 4) {
                boolean better = cost < least || cost == least && nodes.length() < fewest
                    || cost == least && nodes.length() == fewest && nodes.compareTo(first) < 0;
                if (better) {
                    least = cost;
                    fewest = nodes.length();
                    first = nodes;
                }
                return;
            }
            for (int[] a : arc) {
                if (a[0] == node && (seen >> a[1] & 1) == 0) {
                    walk(a[1], seen | 1 << a[1], cost + a[3], nodes + a[1]);
                }
            }
        }

        private void tour(int node, int seen, int cost, String nodes) {
            for (int[] a : arc) {
                if (a[0] == node && a[1] == 0 && seen == 31) {
                    int whole = cost + a[3];
                    if (leastTour == NONE || whole < leastTour || whole == leastTour && nodes.compareTo(firstTour) < 0) {
                        leastTour = whole;
                        firstTour = nodes;
                    }
                } else if (a[0] == node && (seen >> a[1] & 1) == 0) {
                    tour(a[1], seen | 1 << a[1], cost + a[3], nodes + a[1]);
                }
            }
        }

        private void flow(int i, int[] over, int cost, int[] cheapest) {
            if (i == arc.length) {
                if (over[1] == 0 && over[2] == 0 && over[3] == 0 && over[4] >= 0) {
                    int amount = over[4];
                    cheapest[amount] = cheapest[amount] == NONE ? cost : Math.min(cost, cheapest[amount]);
                }
                return;
            }
            for (int f = 0; f <= arc[i][2]; f++) {
                over[arc[i][0]] -= f;
                over[arc[i][1]] += f;
                flow(i + 1, over, cost + f * arc[i][3], cheapest);
                over[arc[i][0]] += f;
                over[arc[i][1]] -= f;
            }
        }
    }
}
