import java.math.BigInteger;
import java.util.ArrayList;
import java.util.List;
import java.util.Random;

/** Promises 11, 12, 13, 15, 17 and 19 on models made at random, against all corners that there are. */
public final class SearchTest {
    private static final Checks C = new Checks("SearchTest");

    /** A fraction without a limit. */
    record Ratio(BigInteger over, BigInteger under) implements Comparable<Ratio> {
        static final Ratio NOUGHT = of(0);

        static Ratio of(long n) {
            return new Ratio(BigInteger.valueOf(n), BigInteger.ONE);
        }

        static Ratio read(String text) {
            int bar = text.indexOf('/');
            return bar < 0 ? new Ratio(new BigInteger(text), BigInteger.ONE)
                : new Ratio(new BigInteger(text.substring(0, bar)), new BigInteger(text.substring(bar + 1)));
        }

        Ratio plus(Ratio o) {
            return made(over.multiply(o.under).add(o.over.multiply(under)), under.multiply(o.under));
        }

        Ratio times(Ratio o) {
            return made(over.multiply(o.over), under.multiply(o.under));
        }

        Ratio by(Ratio o) {
            return made(over.multiply(o.under), under.multiply(o.over));
        }

        Ratio turned() {
            return new Ratio(over.negate(), under);
        }

        static Ratio made(BigInteger a, BigInteger b) {
            BigInteger common = a.gcd(b).multiply(BigInteger.valueOf(b.signum()));
            return new Ratio(a.divide(common), b.divide(common));
        }

        @Override
        public int compareTo(Ratio o) {
            return over.multiply(o.under).compareTo(o.over.multiply(under));
        }

        @Override
        public String toString() {
            return under.equals(BigInteger.ONE) ? over.toString() : over + "/" + under;
        }
    }

    /** Numbers, then the right side, then the sign (0 at most, 1 at least, 2 even). */
    record Side(int[] numbers, int right, int sign) {
        boolean holds(Ratio[] place) {
            Ratio sum = Ratio.of(-right);
            for (int k = 0; k < numbers.length; k++) {
                sum = sum.plus(place[k].times(Ratio.of(numbers[k])));
            }
            int order = sum.compareTo(Ratio.NOUGHT);
            return sign == 2 ? order == 0 : sign == 0 ? order <= 0 : order >= 0;
        }
    }

    public static void main(String[] args) {
        Random random = new Random(20261116);
        for (int i = 0; i < 1500; i++) {
            tryModel(random);
        }
        for (int i = 0; i < 60; i++) {
            tryGreatModel(random);
        }
        C.finish();
    }

    /** Eight variables and great numbers: too many corners, but the proof tells that the answer is best. */
    private static void tryGreatModel(Random random) {
        StringBuilder text = new StringBuilder("set s=1..8;var v[s]from -999 to 999;");
        int[] inside = new int[8];
        for (int k = 0; k < 8; k++) {
            inside[k] = random.nextInt(1999) - 999;
        }
        for (int r = 0; r < 12; r++) {
            text.append("row r").append(r).append(":0");
            int sum = 0;
            for (int k = 0; k < 8; k++) {
                int number = random.nextInt(199) - 99;
                text.append(number < 0 ? "" : "+").append(number).append("*v[").append(k + 1).append("]");
                sum += number * inside[k];
            }
            // A right side beyond what a way may have is drawn in, to the side where the row still holds inside.
            int right = Math.max(-99999, Math.min(99999, sum));
            String sign = right < sum ? ">=" : right > sum ? "<=" : r % 5 == 0 ? "=" : r % 2 == 0 ? "<=" : ">=";
            text.append(sign).append(right).append(";");
        }
        if (random.nextInt(3) == 0) {
            // More than from and to allow: there is no solution then.
            text.append("row q:v[1]-97*v[2]<=-99999;");
            text.delete(text.indexOf("row r11"), text.indexOf("row q"));
        }
        text.append(random.nextBoolean() ? "min 9998/9999" : "max 0");
        int[] under = {97, 89, 83, 79, 73, 71, 67, 61};
        for (int k = 0; k < 8; k++) {
            text.append(random.nextBoolean() ? "+" : "-").append(random.nextInt(99) + 1);
            text.append("/").append(under[k]).append("*v[").append(k + 1).append("]");
        }
        OptimaWorks x = new OptimaWorks();
        Checks.tell(x, text.append(";").toString());
        C.same("read()", x.read(), 8);
        checkProof(x, text.substring(0, 100));
        C.same("no whole ones, no ways", x.solve(false), x.solve(true));
        Ratio[] place = new Ratio[8];
        for (int k = 0; k < 8 && x.solve(true); k++) {
            x.value(k);
            place[k] = Ratio.read(Checks.outputOf(x));
        }
        for (int r = 0; r < x.about(3) && x.solve(true); r++) {
            C.same("row " + r + " holds", side(x, r, 0).holds(place), true);
            C.same("way(" + r + ")", x.way(r), 0);
        }
    }

    private static void tryModel(Random random) {
        int variables = 1 + random.nextInt(3);
        StringBuilder text = new StringBuilder();
        for (int k = 0; k < variables; k++) {
            int from = random.nextInt(7) - 3;
            boolean whole = random.nextInt(3) == 0;
            text.append("var v").append(k).append(whole ? " whole" : "").append(" from ").append(from);
            text.append(" to ").append(from + random.nextInt(4)).append(";");
        }
        int rows = random.nextInt(4);
        for (int r = 0; r < rows; r++) {
            text.append("row r").append(r).append(":").append(sideText(random, variables));
            text.append(r == 0 && random.nextBoolean() ? " or " + sideText(random, variables) : "").append(";");
        }
        int goals = random.nextInt(3);
        for (int g = 0; g < goals; g++) {
            text.append(random.nextBoolean() ? "min " : "max ").append(linearText(random, variables)).append("+1/3;");
        }
        OptimaWorks x = new OptimaWorks();
        Checks.tell(x, text.toString());
        x.read();
        checkAnswer(x, text.toString(), false);
        checkAnswer(x, text.toString(), true);
        checkProof(x, text.toString());
        if (variables < 3 || random.nextInt(4) == 0) {
            checkLeftOut(x, text.toString());
        }
    }

    private static String linearText(Random random, int variables) {
        StringBuilder text = new StringBuilder("0");
        for (int k = 0; k < variables; k++) {
            int number = random.nextInt(9) - 4;
            text.append(number < 0 ? "-" : "+").append(Math.abs(number)).append("*v").append(k);
        }
        return text.toString();
    }

    private static String sideText(Random random, int variables) {
        String[] signs = {"<=", ">=", "="};
        return linearText(random, variables) + signs[random.nextInt(3)] + (random.nextInt(13) - 6);
    }

    // ---- answers ----

    private static Side side(OptimaWorks x, int r, int w) {
        int[] numbers = new int[x.about(2)];
        for (int k = 0; k < numbers.length; k++) {
            numbers[k] = x.row(r, w, k);
        }
        return new Side(numbers, x.row(r, w, OptimaWorks.NONE), x.row(r, w, OptimaWorks.NONE - 1));
    }

    private static Side edge(int variables, int k, int right, int sign) {
        int[] numbers = new int[variables];
        numbers[k] = 1;
        return new Side(numbers, right, sign);
    }

    private static void checkAnswer(OptimaWorks x, String text, boolean relaxed) {
        List<Ratio[]> places = new ArrayList<>();
        List<String> wholes = new ArrayList<>();
        choose(x, relaxed, 0, new ArrayList<>(), places, wholes);
        Ratio[] best = null;
        for (Ratio[] place : places) {
            best = best == null || isBetter(x, place, best) ? place : best;
        }
        C.same("solve(" + relaxed + ") of " + text, x.solve(relaxed), best != null);
        for (int k = 0; best != null && k < best.length; k++) {
            x.value(k);
            C.same("value(" + k + "), " + relaxed + ", of " + text, Checks.outputOf(x), best[k].toString());
        }
        for (int g = 0; best != null && g < x.about(4); g++) {
            x.best(g);
            C.same("best(" + g + "), " + relaxed + ", of " + text, Checks.outputOf(x), goal(x, g, best).toString());
        }
        if (!relaxed) {
            C.same("count() of " + text, x.count(), wholes.stream().distinct().count());
        }
    }

    /** Chooses a way for each row from r on, then looks at all corners. */
    private static void choose(OptimaWorks x, boolean relaxed, int r, List<Side> sides, List<Ratio[]> places, List<String> wholes) {
        if (r == x.about(3)) {
            fix(x, relaxed, 0, sides, places, wholes);
            return;
        }
        int ways = x.row(r, 0, OptimaWorks.NONE - 2);
        if (relaxed && ways > 1) {
            choose(x, true, r + 1, sides, places, wholes);
            return;
        }
        for (int w = 0; w < ways; w++) {
            sides.add(side(x, r, w));
            choose(x, relaxed, r + 1, sides, places, wholes);
            sides.remove(sides.size() - 1);
        }
    }

    private static void fix(OptimaWorks x, boolean relaxed, int k, List<Side> sides, List<Ratio[]> places, List<String> wholes) {
        int variables = x.about(2);
        if (k == variables) {
            int before = places.size();
            corners(variables, sides, places);
            for (Ratio[] place : places.subList(before, places.size())) {
                StringBuilder row = new StringBuilder();
                for (int v = 0; v < variables; v++) {
                    row.append(x.variable(v, 2) == 1 ? place[v] + " " : "");
                }
                wholes.add(row.toString());
            }
            return;
        }
        boolean whole = !relaxed && x.variable(k, 2) == 1;
        int from = x.variable(k, 0);
        int to = x.variable(k, 1);
        for (int n = from; n <= (whole ? to : from); n++) {
            sides.add(edge(variables, k, n, whole ? 2 : 1));
            if (!whole) {
                sides.add(edge(variables, k, to, 0));
            }
            fix(x, relaxed, k + 1, sides, places, wholes);
            sides.remove(sides.size() - 1);
            if (!whole) {
                sides.remove(sides.size() - 1);
            }
        }
    }

    /** Where as many sides as there are variables are even, and all hold. */
    private static void corners(int variables, List<Side> sides, List<Ratio[]> places) {
        for (int bits = 0; bits < 1 << sides.size(); bits++) {
            if (Integer.bitCount(bits) == variables) {
                List<Side> chosen = new ArrayList<>();
                for (int i = 0; i < sides.size(); i++) {
                    if ((bits >> i & 1) != 0) {
                        chosen.add(sides.get(i));
                    }
                }
                Ratio[] place = meet(variables, chosen);
                if (place != null && sides.stream().allMatch(s -> s.holds(place))) {
                    places.add(place);
                }
            }
        }
    }

    private static Ratio[] meet(int n, List<Side> sides) {
        Ratio[][] m = new Ratio[n][n + 1];
        for (int i = 0; i < n; i++) {
            for (int k = 0; k < n; k++) {
                m[i][k] = Ratio.of(sides.get(i).numbers()[k]);
            }
            m[i][n] = Ratio.of(sides.get(i).right());
        }
        for (int k = 0; k < n; k++) {
            int pivot = k;
            while (pivot < n && m[pivot][k].over().signum() == 0) {
                pivot++;
            }
            if (pivot == n) {
                return null;
            }
            Ratio[] row = m[pivot];
            m[pivot] = m[k];
            m[k] = row;
            for (int i = 0; i < n; i++) {
                Ratio share = i == k ? Ratio.NOUGHT : m[i][k].by(row[k]).turned();
                for (int j = 0; j <= n; j++) {
                    m[i][j] = m[i][j].plus(row[j].times(share));
                }
            }
        }
        Ratio[] place = new Ratio[n];
        for (int k = 0; k < n; k++) {
            place[k] = m[k][n].by(m[k][k]);
        }
        return place;
    }

    private static Ratio goalNumber(OptimaWorks x, int g, int k) {
        return Ratio.made(BigInteger.valueOf(x.goal(g, k, false)), BigInteger.valueOf(x.goal(g, k, true)));
    }

    private static Ratio goal(OptimaWorks x, int g, Ratio[] place) {
        Ratio sum = goalNumber(x, g, OptimaWorks.NONE);
        for (int k = 0; k < place.length; k++) {
            sum = sum.plus(place[k].times(goalNumber(x, g, k)));
        }
        return sum;
    }

    private static boolean isBetter(OptimaWorks x, Ratio[] place, Ratio[] best) {
        for (int g = 0; g < x.about(4); g++) {
            int order = goal(x, g, place).compareTo(goal(x, g, best));
            if (order != 0) {
                return x.goal(g, OptimaWorks.NONE - 1, false) == 1 ? order > 0 : order < 0;
            }
        }
        for (int k = 0; k < place.length; k++) {
            int order = place[k].compareTo(best[k]);
            if (order != 0) {
                return order < 0;
            }
        }
        return false;
    }

    // ---- proofs ----

    /** The needs, times their multipliers, are added up, and must tell what is proved. */
    private static void checkProof(OptimaWorks x, String text) {
        int kept = x.prove();
        boolean solved = x.solve(true);
        int variables = x.about(2);
        Ratio[] sum = new Ratio[variables];
        java.util.Arrays.fill(sum, Ratio.NOUGHT);
        Ratio right = Ratio.NOUGHT;
        Ratio all = Ratio.NOUGHT;
        for (int i = 0; i < x.about(7); i++) {
            Side need = need(x, i);
            x.multiplier(i);
            Ratio share = Ratio.read(Checks.outputOf(x));
            C.same("need(" + i + ", 0) of " + text, x.need(i, 0), share.over().signum() == 0 ? 0 : 1);
            C.same("none below 0, " + text, need.sign() != 2 && share.over().signum() < 0, false);
            all = all.plus(share.over().signum() < 0 ? share.turned() : share);
            share = need.sign() == 0 ? share.turned() : share;
            for (int k = 0; k < variables; k++) {
                sum[k] = sum[k].plus(share.times(Ratio.of(need.numbers()[k])));
            }
            right = right.plus(share.times(Ratio.of(need.right())));
            kept -= x.need(i, 0);
        }
        C.same("prove() of " + text, kept, 0);
        x.multiplier(OptimaWorks.NONE);
        Ratio proved = Ratio.read(Checks.outputOf(x));
        boolean goals = solved && x.about(4) > 0;
        boolean max = goals && x.goal(0, OptimaWorks.NONE - 1, false) == 1;
        for (int k = 0; k < variables; k++) {
            Ratio due = goals ? goalNumber(x, 0, k) : Ratio.NOUGHT;
            C.same("sum of " + k + ", " + text, sum[k].toString(), (max ? due.turned() : due).toString());
        }
        Ratio alone = goals ? goalNumber(x, 0, OptimaWorks.NONE) : Ratio.NOUGHT;
        C.same("what is proved, " + text, proved.toString(), right.plus(max ? alone.turned() : alone).toString());
        if (!solved) {
            C.same("multipliers' sum, " + text, all.toString(), "1");
            C.same("shortfall, " + text, proved.over().signum(), 1);
        } else if (goals) {
            x.best(0);
            Ratio best = Ratio.read(Checks.outputOf(x));
            C.same("the best is proved, " + text, proved.toString(), (max ? best.turned() : best).toString());
        }
    }

    /** A need, taken as it is (sign 1) or, if it is even, the other way round: what it adds up to. */
    record Share(int need, Ratio[] numbers, Ratio right) {
    }

    /** All needs that can be left out are found by trying all few needs that prove the same. */
    private static void checkLeftOut(OptimaWorks x, String text) {
        boolean solved = x.solve(true);
        x.multiplier(OptimaWorks.NONE);
        Ratio proved = Ratio.read(Checks.outputOf(x));
        int variables = x.about(2);
        boolean goals = solved && x.about(4) > 0;
        boolean max = goals && x.goal(0, OptimaWorks.NONE - 1, false) == 1;
        Ratio[] wanted = new Ratio[variables + 1];
        for (int k = 0; k < variables; k++) {
            Ratio number = goals ? goalNumber(x, 0, k) : Ratio.NOUGHT;
            wanted[k] = max ? number.turned() : number;
        }
        // Without solutions the multipliers' sum counts as one number more.
        wanted[variables] = solved ? Ratio.NOUGHT : Ratio.of(1);
        Ratio alone = goals ? goalNumber(x, 0, OptimaWorks.NONE) : Ratio.NOUGHT;
        Ratio right = proved.plus(max ? alone : alone.turned());
        List<Integer> proofs = new ArrayList<>();
        findProofs(shares(x, solved), 0, new ArrayList<>(), wanted, right, proofs);
        int kept = (1 << x.about(7)) - 1;
        for (int i = x.about(7) - 1; i >= 0; i--) {
            int without = kept & ~(1 << i);
            boolean out = proofs.stream().anyMatch(proof -> (proof & ~without) == 0);
            kept = out ? without : kept;
            C.same("need(" + i + ", 0), left out of " + text, x.need(i, 0), out ? 0 : 1);
        }
    }

    private static List<Share> shares(OptimaWorks x, boolean solved) {
        List<Share> shares = new ArrayList<>();
        int variables = x.about(2);
        for (int i = 0; i < x.about(7); i++) {
            Side need = need(x, i);
            for (int sign = need.sign() == 0 ? -1 : 1; sign >= (need.sign() == 1 ? 1 : -1); sign -= 2) {
                Ratio[] numbers = new Ratio[variables + 1];
                for (int k = 0; k < variables; k++) {
                    numbers[k] = Ratio.of(sign * need.numbers()[k]);
                }
                numbers[variables] = Ratio.of(solved ? 0 : 1);
                shares.add(new Share(i, numbers, Ratio.of(sign * need.right())));
            }
        }
        return shares;
    }

    /** Adds each few shares that, times numbers of which none is below 0, are what is wanted; no more are ever needed. */
    private static void findProofs(List<Share> shares, int from, List<Share> chosen, Ratio[] wanted, Ratio right, List<Integer> proofs) {
        Ratio[] times = timesOf(chosen, wanted);
        if (times != null) {
            Ratio sum = Ratio.NOUGHT;
            int bits = 0;
            boolean below = false;
            for (int i = 0; i < times.length; i++) {
                sum = sum.plus(chosen.get(i).right().times(times[i]));
                bits |= 1 << chosen.get(i).need();
                below |= times[i].over().signum() < 0;
            }
            if (!below && sum.compareTo(right) == 0) {
                proofs.add(bits);
            }
        }
        for (int i = from; i < shares.size() && chosen.size() < wanted.length; i++) {
            chosen.add(shares.get(i));
            findProofs(shares, i + 1, chosen, wanted, right, proofs);
            chosen.remove(chosen.size() - 1);
        }
    }

    /** The numbers by which the shares add up to what is wanted, if there is just one such row of numbers. */
    private static Ratio[] timesOf(List<Share> shares, Ratio[] wanted) {
        int many = shares.size();
        Ratio[][] m = new Ratio[wanted.length][many + 1];
        for (int i = 0; i < wanted.length; i++) {
            for (int j = 0; j < many; j++) {
                m[i][j] = shares.get(j).numbers()[i];
            }
            m[i][many] = wanted[i];
        }
        for (int j = 0; j < many; j++) {
            int pivot = j;
            while (pivot < m.length && m[pivot][j].over().signum() == 0) {
                pivot++;
            }
            if (pivot == m.length) {
                return null;
            }
            Ratio[] row = m[pivot];
            m[pivot] = m[j];
            m[j] = row;
            for (int i = 0; i < m.length; i++) {
                Ratio share = i == j ? Ratio.NOUGHT : m[i][j].by(row[j]).turned();
                for (int k = 0; k <= many && share.over().signum() != 0; k++) {
                    m[i][k] = m[i][k].plus(row[k].times(share));
                }
            }
        }
        for (int i = many; i < m.length; i++) {
            if (m[i][many].over().signum() != 0) {
                return null;
            }
        }
        Ratio[] times = new Ratio[many];
        for (int j = 0; j < many; j++) {
            times[j] = m[j][many].by(m[j][j]);
        }
        return times;
    }

    private static Side need(OptimaWorks x, int i) {
        int of = x.need(i, 1);
        int kind = x.need(i, 2);
        return kind == 0 ? side(x, of, 0) : edge(x.about(2), of, x.variable(of, kind - 1), kind == 1 ? 1 : 0);
    }
}
