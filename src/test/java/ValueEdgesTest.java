/** The edges of VALUES and of promises 22 to 29, a sentence of the document at a time. */
public final class ValueEdgesTest {
    private static final int NONE = OptimaWorks.NONE;
    private static final int LEAST = Integer.MIN_VALUE;
    private static final int GREATEST = Integer.MAX_VALUE;
    private static final int ALL = 65535;
    private static final Checks C = new Checks("ValueEdgesTest");

    public static void main(String[] args) {
        domains();
        tenHolders();
        kinds();
        sets();
        orders();
        sums();
        mosts();
        pairRules();
        twelveRules();
        differentRule();
        orderRule();
        sumRule();
        mostRule();
        pairsRule();
        pairs();
        lefts();
        empties();
        listings();
        rowsListed();
        sizes();
        listed();
        reasons();
        clears();
        C.finish();
    }

    private static OptimaWorks desk(int... domains) {
        OptimaWorks x = new OptimaWorks();
        for (int domain : domains) {
            x.holder(domain);
        }
        return x;
    }

    private static void left(String what, OptimaWorks x, int... due) {
        for (int h = 0; h < due.length; h++) {
            C.same(what + ": left(" + h + ")", x.left(h), due[h]);
        }
    }

    private static void bad(OptimaWorks x, int kind, int a, int b, int c) {
        C.badArgument("rule(" + kind + ", " + a + ", " + b + ", " + c + ")", () -> x.rule(kind, a, b, c));
    }

    /** One rule on a new desk: whether it is taken. */
    private static void good(int kind, int a, int b, int c, int... domains) {
        C.same("rule(" + kind + ", " + a + ", " + b + ", " + c + ")", desk(domains).rule(kind, a, b, c), 0);
    }

    private static void domains() {
        C.sentence("IllegalArgumentException: the domain has bits beyond 16, or none.");
        int[] bad = {0, 65536, 65537, -1, LEAST, GREATEST, 1 << 30};
        for (int domain : bad) {
            C.badArgument("holder(" + domain + ")", () -> desk().holder(domain));
        }
        int[] good = {1, 2, 32768, 65535};
        for (int domain : good) {
            OptimaWorks x = desk(domain);
            C.same("left(0) of " + domain, x.left(0), domain);
        }
        OptimaWorks x = desk(3);
        C.badArgument("holder(0)", () -> x.holder(0));
        C.same("the next one", x.holder(4), 1);
    }

    private static void tenHolders() {
        C.sentence("HOLDERS, at most 10, each with a DOMAIN, a set of values 0 .. 15 (bits), that it has at first.");
        OptimaWorks x = desk();
        for (int h = 0; h < 10; h++) {
            C.same("left(" + h + ") ahead of it", x.left(h), NONE);
            C.same("holder() number " + h, x.holder(1 << h + 6), h);
            C.same("left(" + h + ")", x.left(h), 1 << h + 6);
        }
        C.sentence("IllegalStateException: there are 10.");
        C.badState("holder() number 10", () -> x.holder(1));
        C.badState("holder() number 10 again", () -> x.holder(ALL));
        C.same("left(10)", x.left(10), NONE);
        x.clear();
        C.same("holder() behind clear()", x.holder(1), 0);
    }

    private static void kinds() {
        C.sentence("IllegalArgumentException: kind, or a number is none of these");
        int[] bad = {-1, 5, LEAST, GREATEST};
        for (int kind : bad) {
            bad(desk(3, 3), kind, 1, 1, 1);
        }
        good(0, 1, 1, 1, 3, 3);
        good(1, 1, 1, 1, 3, 3);
        good(2, 1, 1, 1, 3, 3);
        good(3, 1, 1, 1, 3, 3);
        good(4, 1, 0, 1, 3, 3);
    }

    private static void sets() {
        C.sentence("(a set has bits of holders alone, one at least; hi, lo, n -200 .. 200)");
        int[] kinds = {0, 2, 3};
        for (int kind : kinds) {
            int[] bad = {0, 8, 9, -1, LEAST, GREATEST, 1 << 10};
            for (int set : bad) {
                bad(desk(3, 3, 3), kind, set, 1, 1);
            }
            int[] good = {1, 2, 4, 5, 7};
            for (int set : good) {
                good(kind, set, 1, 1, 3, 3, 3);
            }
            bad(desk(), kind, 1, 1, 1);
            bad(desk(1, 1, 1, 1, 1, 1, 1, 1, 1, 1), kind, 1024, 1, 1);
            good(kind, 1023, 1, 1, 1, 1, 1, 1, 1, 1, 1, 1, 1, 1);
        }
        int[] far = {201, -201, LEAST, GREATEST};
        for (int n : far) {
            bad(desk(3), 2, 1, n, 0);
            bad(desk(3), 2, 1, 0, n);
            bad(desk(3), 3, 1, n, 0);
        }
        int[] near = {200, -200, 0};
        for (int n : near) {
            good(2, 1, n, 0, 3);
            good(2, 1, 0, n, 3);
            good(3, 1, n, 0, 3);
        }
        // What kind 0 does not tell counts nothing.
        good(0, 1, LEAST, GREATEST, 3);
    }

    private static void orders() {
        C.sentence("1: i = a, k = b (-15 .. 15), j = c.");
        int[] bad = {-1, 2, 10, LEAST, GREATEST};
        for (int h : bad) {
            bad(desk(3, 3), 1, h, 0, 0);
            bad(desk(3, 3), 1, 0, 0, h);
        }
        int[] far = {16, -16, LEAST, GREATEST};
        for (int k : far) {
            bad(desk(3, 3), 1, 0, k, 1);
        }
        good(1, 0, 15, 1, 3, 3);
        good(1, 1, -15, 0, 3, 3);
        good(1, 1, 0, 1, 3, 3);
    }

    private static void sums() {
        C.sentence("2: set a, lo b, hi c.");
        good(2, 3, 200, -200, 3, 3);
        OptimaWorks x = desk(3, 3);
        x.rule(2, 3, 200, -200);
        left("lo above hi", x, 0, 0);
        OptimaWorks y = desk(3, 3);
        y.rule(2, 3, -200, 200);
        left("any sum", y, 3, 3);
    }

    private static void mosts() {
        C.sentence("3: set a, n b, v c (0 .. 15).");
        int[] bad = {-1, 16, LEAST, GREATEST};
        for (int v : bad) {
            bad(desk(3), 3, 1, 1, v);
        }
        good(3, 1, 1, 0, 3);
        good(3, 1, 1, 15, 3);
    }

    private static void pairRules() {
        C.sentence("4: i = a, j = b (another one); its rows are the 16 that pair() has told by now (c counts nothing).");
        int[] bad = {-1, 2, 10, LEAST, GREATEST};
        for (int h : bad) {
            bad(desk(3, 3), 4, h, 0, 0);
            bad(desk(3, 3), 4, 0, h, 0);
        }
        bad(desk(3, 3), 4, 0, 0, 0);
        bad(desk(3, 3), 4, 1, 1, 0);
        good(4, 0, 1, LEAST, 3, 3);
        good(4, 1, 0, GREATEST, 3, 3);
        OptimaWorks x = desk(7, 7, 7);
        x.pair(0, 1);
        x.rule(4, 0, 1, 9);
        x.pair(1, 2);
        x.rule(4, 1, 2, 0);
        left("told by then", x, 1, 1, 1);
        OptimaWorks y = desk(7, 7, 7);
        y.pair(0, 1);
        y.pair(1, 2);
        y.rule(4, 0, 1, 0);
        y.rule(4, 1, 2, 0);
        left("both told by then", y, 3, 3, 3);
    }

    private static void twelveRules() {
        C.sentence("A new RULE: its number. 0: set a.");
        OptimaWorks first = desk(3, 3);
        C.same("rule()", first.rule(0, 3, 7, 7), 0);
        C.same("rule() again", first.rule(0, 2, -7, -7), 1);
        C.same("left(0)", first.left(0), 3);
        C.sentence("RULES, at most 12:");
        OptimaWorks x = desk(ALL, ALL);
        for (int r = 0; r < 12; r++) {
            C.same("rule number " + r, x.rule(2, 1, r, 200), r);
        }
        left("at least 11", x, 0xf800, ALL);
        C.sentence("IllegalStateException: there are 12.");
        C.badState("rule number 12", () -> x.rule(2, 2, 1, 1));
        left("nothing came", x, 0xf800, ALL);
        C.badArgument("none such at all", () -> x.rule(5, 1, 1, 1));
        x.clear();
        x.holder(3);
        C.same("rule behind clear()", x.rule(0, 1, 0, 0), 0);
    }

    private static void differentRule() {
        C.sentence("0 DIFFERENT: holders of a set (bits) all differ.");
        OptimaWorks x = desk(1, 3, 1);
        x.rule(0, 3, 0, 0);
        left("0 and 1 differ, 2 is not in the set", x, 1, 2, 1);
        OptimaWorks two = desk(3, 3, 7);
        two.rule(0, 7, 0, 0);
        left("as many values as holders", two, 3, 3, 4);
        OptimaWorks many = desk(3, 3, 3);
        many.rule(0, 7, 0, 0);
        left("fewer values than holders", many, 0, 0, 0);
        OptimaWorks one = desk(3, 3);
        one.rule(0, 1, 0, 0);
        left("one alone", one, 3, 3);
        OptimaWorks ten = desk(1023, 1023, 1023, 1023, 1023, 1023, 1023, 1023, 1023, 1023);
        ten.rule(0, 1023, 0, 0);
        left("ten of ten", ten, 1023, 1023, 1023, 1023, 1023, 1023, 1023, 1023, 1023, 1023);
        OptimaWorks nine = desk(511, 511, 511, 511, 511, 511, 511, 511, 511, 1023);
        nine.rule(0, 1023, 0, 0);
        left("nine of nine", nine, 511, 511, 511, 511, 511, 511, 511, 511, 511, 512);
        OptimaWorks less = desk(511, 511, 511, 511, 511, 511, 511, 511, 511, 511);
        less.rule(0, 1023, 0, 0);
        left("ten of nine", less, 0, 0, 0, 0, 0, 0, 0, 0, 0, 0);
    }

    private static void orderRule() {
        C.sentence("1 ORDER: i's value and k are at most j's.");
        int[][] due = {{15, 15, 0, 15, 15}, {15, 15, 1, 7, 14}, {15, 15, 3, 1, 8}, {15, 15, 4, 0, 0}, {15, 15, -1, 15, 15}, {8, 15, -1, 8, 12}, {8, 15, 0, 8, 8},
            {8, 15, 1, 0, 0}, {32768, 1, -15, 32768, 1}, {32768, 1, -14, 0, 0}, {1, 32768, 15, 1, 32768}, {2, 32768, 15, 0, 0}, {ALL, ALL, 15, 1, 32768},
            {ALL, ALL, -15, ALL, ALL}, {ALL, 1, -14, 0x7fff, 1}, {32768, ALL, 0, 32768, 32768}, {0b1001, 0b0110, 0, 1, 6}};
        for (int[] d : due) {
            OptimaWorks x = desk(d[0], d[1]);
            x.rule(1, 0, d[2], 1);
            left(d[0] + " and " + d[2] + " at most " + d[1], x, d[3], d[4]);
        }
        int[] self = {-15, -1, 0};
        for (int k : self) {
            OptimaWorks x = desk(10);
            x.rule(1, 0, k, 0);
            left("itself, " + k, x, 10);
        }
        OptimaWorks x = desk(10, 3);
        x.rule(1, 0, 1, 0);
        left("itself, 1", x, 0, 0);
    }

    private static void sumRule() {
        C.sentence("2 SUM: the values of a set's holders together are from lo to hi.");
        int[][] due = {{6, 6, 8, 8}, {5, 6, 12, 12}, {0, 0, 1, 1}, {0, 1, 3, 3}, {7, 200, 0, 0}, {-200, -1, 0, 0}, {-5, 0, 1, 1}, {3, 2, 0, 0}, {6, 200, 8, 8},
            {-200, 200, 15, 15}, {0, 6, 15, 15}};
        for (int[] d : due) {
            OptimaWorks x = desk(15, 15, 1);
            x.rule(2, 3, d[0], d[1]);
            left("from " + d[0] + " to " + d[1], x, d[2], d[3], d[2] == 0 ? 0 : 1);
        }
        OptimaWorks x = desk(0b10001, 0b10001);
        x.rule(2, 3, 1, 7);
        left("4 and 0, or 0 and 4", x, 17, 17);
        x.rule(2, 3, 5, 200);
        left("nothing between 4 and 8", x, 0, 0);
        OptimaWorks single = desk(ALL);
        single.rule(2, 1, 3, 5);
        left("of one", single, 0b111000);
        int top = 32768;
        OptimaWorks most = desk(top, top, top, top, top, top, top, top, top, top);
        most.rule(2, 1023, 150, 150);
        left("150", most, top, top, top, top, top, top, top, top, top, top);
        most.rule(2, 1023, 151, 200);
        left("151", most, 0, 0, 0, 0, 0, 0, 0, 0, 0, 0);
        greatSums();
    }

    /** So many holders that are 15, then one that may be all: the sum from lo to hi leaves it these values. */
    private static void behind(int many, int lo, int hi, int due) {
        OptimaWorks x = desk();
        for (int i = 0; i < many; i++) {
            x.holder(32768);
        }
        x.holder(ALL);
        x.rule(2, (2 << many) - 1, lo, hi);
        left("from " + lo + " to " + hi, x, due == 0 ? 0 : 32768);
        C.same("what is behind " + many + " holders, from " + lo + " to " + hi, x.left(many), due);
    }

    private static void greatSums() {
        for (int sum = 60; sum <= 75; sum++) {
            behind(4, sum, sum, 1 << sum - 60);
        }
        behind(4, 59, 59, 0);
        behind(4, 76, 76, 0);
        behind(4, 63, 65, 0b111000);
        behind(4, 0, 64, 0b11111);
        behind(4, 64, 200, ALL & -1 << 4);
        for (int sum = 120; sum <= 135; sum++) {
            behind(8, sum, sum, 1 << sum - 120);
        }
        behind(8, 119, 119, 0);
        behind(8, 136, 136, 0);
        behind(8, 127, 129, 0b111 << 7);
        behind(9, 150, 200, 32768);
        behind(9, 151, 200, 0);
        behind(9, 128, 128, 0);
        behind(9, 192, 200, 0);
        behind(0, 64, 64, 0);
        behind(1, 79, 79, 0);
        OptimaWorks nought = desk(1, 32);
        nought.rule(2, 3, 69, 69);
        left("0 and 5 are not 69", nought, 0, 0);
        OptimaWorks steps = desk(32768, 32768, 32768, 32768, 8, 7);
        steps.rule(2, 63, 64, 64);
        left("63 and 1", steps, 32768, 32768, 32768, 32768, 8, 2);
        OptimaWorks last = desk(32768, 32768, 32768, 32768, 32768, 32768, 32768, 32768, 256, ALL);
        last.rule(2, 1023, 200, 200);
        left("128 and at most 15 are not 200", last, 0, 0, 0, 0, 0, 0, 0, 0, 0, 0);
        // 0, then 11 or 15, then eight of 0 or 15 each: 90 is six of 15, and 11 is in none.
        OptimaWorks six = desk(1, 1 << 11 | 32768, 32769, 32769, 32769, 32769, 32769, 32769, 32769, 32769);
        six.rule(2, 1023, 90, 90);
        left("six of 15", six, 1, 32768, 32769, 32769, 32769, 32769, 32769, 32769, 32769, 32769);
        // Of 0 or 15 each: as many 15s as 75 has.
        OptimaWorks ten = desk(32769, 32769, 32769, 32769, 32769, 32769, 32769, 32769, 32769, 32769);
        ten.rule(2, 1023, 61, 89);
        left("75 is the only sum", ten, 32769, 32769, 32769, 32769, 32769, 32769, 32769, 32769, 32769, 32769);
        ten.rule(2, 1023, 76, 89);
        left("none from 76 to 89", ten, 0, 0, 0, 0, 0, 0, 0, 0, 0, 0);
    }

    private static void mostRule() {
        C.sentence("3 MOST: at most n of a set's holders have the value v.");
        OptimaWorks x = desk(2, 3, 3, 2);
        x.rule(3, 7, 1, 1);
        left("at most one of three", x, 2, 1, 1, 2);
        OptimaWorks two = desk(2, 3, 3, 2);
        two.rule(3, 7, 2, 1);
        left("at most two of three", two, 2, 3, 3, 2);
        OptimaWorks both = desk(2, 2, 3, 2);
        both.rule(3, 7, 2, 1);
        left("two have it", both, 2, 2, 1, 2);
        OptimaWorks more = desk(2, 2, 3, 2);
        more.rule(3, 7, 1, 1);
        left("two have it, one may", more, 0, 0, 0, 0);
        OptimaWorks none = desk(3, 6, 4);
        none.rule(3, 7, 0, 1);
        left("none", none, 1, 4, 4);
        OptimaWorks all = desk(2, 2, 2);
        all.rule(3, 7, 3, 1);
        left("as many as there are", all, 2, 2, 2);
        OptimaWorks less = desk(4);
        less.rule(3, 1, -1, 1);
        left("fewer than none", less, 0);
        OptimaWorks other = desk(4);
        other.rule(3, 1, 0, 1);
        left("none has it anyway", other, 4);
        OptimaWorks edges = desk(32769, 32769);
        edges.rule(3, 3, 0, 15);
        left("value 15", edges, 1, 1);
        edges.rule(3, 3, 0, 0);
        left("value 0", edges, 0, 0);
    }

    private static void pairsRule() {
        C.sentence("4 PAIRS: (i's, j's) is one of 16 by 16 bits, told by rows.");
        OptimaWorks x = desk(ALL, ALL);
        x.pair(0, 32768);
        x.pair(15, 1);
        x.rule(4, 0, 1, 0);
        left("0 with 15, 15 with 0", x, 32769, 32769);
        OptimaWorks y = desk(ALL, ALL);
        y.pair(3, 0b1100);
        y.rule(4, 1, 0, 0);
        left("i is 1, j is 0", y, 12, 8);
        OptimaWorks z = desk(ALL, ALL);
        for (int v = 0; v < 16; v++) {
            z.pair(v, 1 << 15 - v);
        }
        z.rule(4, 0, 1, 0);
        left("each with one", z, ALL, ALL);
        z.rule(2, 1, 4, 4);
        left("4 with 11", z, 16, 1 << 11);
    }

    private static void pairs() {
        C.sentence("All are 0 at first, and stay as they are told. Whether value is 0 .. 15 and bits are 16.");
        OptimaWorks x = desk(ALL, ALL);
        int[][] bad = {{-1, 1}, {16, 1}, {LEAST, 1}, {GREATEST, 1}, {0, -1}, {0, 65536}, {0, LEAST}, {0, GREATEST}};
        for (int[] p : bad) {
            C.same("pair(" + p[0] + ", " + p[1] + ")", x.pair(p[0], p[1]), false);
        }
        int[][] good = {{0, 0}, {15, 0}, {0, ALL}, {15, ALL}, {7, 1}};
        for (int[] p : good) {
            C.same("pair(" + p[0] + ", " + p[1] + ")", x.pair(p[0], p[1]), true);
        }
        OptimaWorks none = desk(ALL, ALL);
        none.rule(4, 0, 1, 0);
        left("0 at first", none, 0, 0);
        OptimaWorks y = desk(ALL, ALL);
        y.pair(5, 2);
        y.pair(5, 65536);
        y.rule(4, 0, 1, 0);
        left("what is refused changes nothing", y, 32, 2);
        OptimaWorks z = desk(ALL, ALL);
        z.pair(5, 2);
        z.pair(5, 4);
        z.rule(4, 0, 1, 0);
        z.rule(4, 0, 1, 0);
        left("told anew", z, 32, 4);
    }

    private static void lefts() {
        C.sentence("again and again, for each rule, each value of a holder of the rule that is in no row of values, out of all domains now, "
            + "that keeps this rule, goes, until nothing goes");
        OptimaWorks x = desk(ALL, ALL, ALL, ALL);
        x.rule(1, 0, 5, 1);
        x.rule(1, 1, 5, 2);
        x.rule(1, 2, 5, 3);
        left("a chain up to 15", x, 1, 1 << 5, 1 << 10, 1 << 15);
        // Each rule by itself leaves all: only together do they not, and that is not seen.
        OptimaWorks y = desk(3, 3, 3);
        y.rule(0, 3, 0, 0);
        y.rule(0, 6, 0, 0);
        y.rule(0, 5, 0, 0);
        left("no two alike of three", y, 3, 3, 3);
        C.same("listing(), though", y.listing(), 0);
        y.rule(2, 1, 0, 0);
        left("seen when one is told", y, 0, 0, 0);
        longWay();
        C.sentence("What is LEFT: of all domains, again and again,");
        // A value that a rule takes from one holder may be the last that another rule had there for a third one.
        OptimaWorks third = desk(3, 3, 7, 12);
        third.rule(0, 7, 0, 0);
        third.rule(1, 2, 1, 3);
        left("2 is all that is left, then 3", third, 3, 3, 4, 8);
        C.sentence("(it does not matter in which order)");
        int[][] rules = {{1, 0, 5, 1}, {1, 1, 4, 2}, {2, 5, 0, 11}, {3, 7, 0, 5}, {0, 7, 0, 0}};
        for (int turn = 0; turn < 5; turn++) {
            for (int way = 1; way < 5; way++) {
                OptimaWorks z = desk(ALL, ALL, ALL);
                for (int i = 0; i < 5; i++) {
                    int[] r = rules[(turn + i * way) % 5];
                    z.rule(r[0], r[1], r[2], r[3]);
                }
                // 0 or 1, then 6 or 7, then 10 or 11, of which 1 and 11 are more than 11 together.
                left("turned by " + turn + ", every " + way, z, 3, 0b11000000, 0b110000000000);
            }
        }
        C.sentence("What is LEFT of a holder's domain, as bits; NONE if there is none such.");
        int[] none = {-1, 4, 10, LEAST, GREATEST};
        for (int h : none) {
            C.same("left(" + h + ")", x.left(h), NONE);
        }
        C.same("left(3)", x.left(3), 1 << 15);
        C.same("left(0) of a new object", new OptimaWorks().left(0), NONE);
    }

    /**
     * Ten holders in a ring, each as the one before, but for the first, which is one more than the last
     * (0 behind 15): nothing goes while all are full; without one value all go, a few at a time.
     */
    private static void longWay() {
        int[] order = {0, 2, 4, 6, 8, 1, 3, 5, 7, 9};
        int[] firsts = {ALL, ALL & ~1, ALL & ~(1 << 7), ALL & ~(1 << 15)};
        for (int turn = 0; turn < 10; turn++) {
            for (int first : firsts) {
                OptimaWorks x = desk(first, ALL, ALL, ALL, ALL, ALL, ALL, ALL, ALL, ALL);
                for (int i : order) {
                    int at = (i + turn) % 10;
                    for (int v = 0; v < 16; v++) {
                        x.pair(v, at == 9 ? 1 << (v + 1) % 16 : 1 << v);
                    }
                    x.rule(4, at, (at + 1) % 10, 0);
                }
                int due = first == ALL ? ALL : 0;
                left("a ring, " + first + " first", x, due, due, due, due, due, due, due, due, due, due);
            }
        }
    }

    private static void empties() {
        C.sentence("A holder whose domain is empty: all are empty then.");
        OptimaWorks x = desk(3, 4, ALL);
        x.rule(2, 1, 2, 2);
        left("those of no rule, too", x, 0, 0, 0);
        x.holder(8);
        left("one that comes later, too", x, 0, 0, 0, 0);
        OptimaWorks y = desk(3, 4, ALL);
        y.rule(2, 1, 1, 1);
        left("not empty", y, 2, 4, ALL);
    }

    private static void listings() {
        C.sentence("A LISTING: rows of values, one for each holder, out of the domains they have at first, that keep all rules, "
            + "the first holders' lesser values first (without holders: one row, of nothing).");
        C.same("without holders", new OptimaWorks().listing(), 1);
        C.same("listed(0, 0) of nothing", new OptimaWorks().listed(0, 0), NONE);
        OptimaWorks x = desk(0b1010, 0b1000001, 4);
        int[][] due = {{1, 0, 2}, {1, 6, 2}, {3, 0, 2}, {3, 6, 2}};
        C.same("listing()", x.listing(), 4);
        for (int k = 0; k < 4; k++) {
            for (int h = 0; h < 3; h++) {
                C.same("listed(" + k + ", " + h + ")", x.listed(k, h), due[k][h]);
            }
        }
        x.rule(1, 0, 0, 1);
        C.same("listing(), 0 at most 1", x.listing(), 2);
        C.same("listed(0, 1)", x.listed(0, 1), 6);
        C.same("listed(1, 0)", x.listed(1, 0), 3);
        x.rule(2, 7, 9, 9);
        C.same("listing(), sum 9", x.listing(), 1);
        C.same("listed(0, 0)", x.listed(0, 0), 1);
        x.rule(3, 7, 0, 2);
        C.same("listing(), none", x.listing(), 0);
        C.same("listed(0, 0)", x.listed(0, 0), NONE);
        C.same("listing() of one value", desk(32768).listing(), 1);
        C.same("its value", desk(32768).listed(0, 0), 15);
    }

    private static void rowsListed() {
        C.sentence("How many rows a LISTING has, at most 5000;");
        // 5000 rows, then 5005; the last ones differ.
        OptimaWorks x = desk(1023, 1023, 1023, 31);
        C.same("10 * 10 * 10 * 5", x.listing(), 5000);
        C.same("listed(4999, 0)", x.listed(4999, 0), 9);
        C.same("listed(4999, 3)", x.listed(4999, 3), 4);
        OptimaWorks y = desk(31, 127, 2047, 8191);
        C.same("5 * 7 * 11 * 13", y.listing(), 5000);
        C.same("listed(4999, 0)", y.listed(4999, 0), 4);
        C.same("listed(4999, 3)", y.listed(4999, 3), 4999 % 13);
        C.same("listed(5000, 3)", y.listed(5000, 3), NONE);
        OptimaWorks z = desk(127, 255, 2047, 255);
        z.rule(1, 0, 1, 0);
        C.same("none of 4928", z.listing(), 0);
        OptimaWorks less = desk(8191, 127, 127, 127);
        C.same("13 * 7 * 7 * 7", less.listing(), 4459);
    }

    private static void sizes() {
        C.sentence("NONE, and nothing is listed, if the numbers of values that the domains have at first, multiplied, are above 20000.");
        OptimaWorks x = desk(1023, 1023, 1023, 1023, 3);
        C.same("20000", x.listing(), 5000);
        C.same("listed(0, 0)", x.listed(0, 0), 0);
        x.rule(2, 31, 37, 200);
        C.same("20000, of which 1", x.listing(), 1);
        C.same("listed(0, 4)", x.listed(0, 4), 1);
        OptimaWorks y = desk(15, 31, 127, 2047, 8191);
        C.same("20020", y.listing(), NONE);
        C.same("listed(0, 0)", y.listed(0, 0), NONE);
        // At first: what is left does not count.
        y.rule(2, 31, 0, 0);
        C.same("20020, of which 1", y.listing(), NONE);
        C.same("listed(0, 0)", y.listed(0, 0), NONE);
        C.same("left(0), though", y.left(0), 1);
        OptimaWorks ten = desk(ALL, ALL, ALL, ALL, ALL, ALL, ALL, ALL, ALL, ALL);
        C.same("16 to the 10th, beyond an int", ten.listing(), NONE);
        OptimaWorks eight = desk(ALL, ALL, ALL, ALL, ALL, ALL, ALL, ALL);
        C.same("16 to the 8th, 0 as an int", eight.listing(), NONE);
        eight.clear();
        C.same("listing() behind clear()", eight.listing(), 1);
        OptimaWorks one = desk(1, 2, 4, 8, 16, 32, 64, 128, 256, 512);
        C.same("1", one.listing(), 1);
        for (int h = 0; h < 10; h++) {
            C.same("listed(0, " + h + ")", one.listed(0, h), h);
        }
    }

    private static void listed() {
        C.sentence("Of row k of the listing: a holder's value; NONE if there is none such (k is below 5000).");
        OptimaWorks x = desk(3, 3);
        int[] noRow = {-1, 4, 5000, LEAST, GREATEST};
        for (int k : noRow) {
            C.same("listed(" + k + ", 0)", x.listed(k, 0), NONE);
        }
        int[] noHolder = {-1, 2, 10, LEAST, GREATEST};
        for (int h : noHolder) {
            C.same("listed(0, " + h + ")", x.listed(0, h), NONE);
        }
        C.same("listed(3, 1)", x.listed(3, 1), 1);
        OptimaWorks y = desk(1023, 1023, 1023, 1023);
        C.same("listed(4999, 0) of 10000", y.listed(4999, 0), 4);
        C.same("listed(5000, 0) of 10000", y.listed(5000, 0), NONE);
    }

    private static void reasons() {
        C.sentence("The REASON why a value (that a holder had at first) is not left: the rules are gone through from the last to the first; "
            + "each is left out if without it and those left out so far it is still not left.");
        OptimaWorks x = desk(15, 15, 15);
        x.rule(3, 1, 0, 3);
        x.rule(2, 1, 0, 2);
        x.rule(0, 6, 0, 0);
        C.same("reason(0, 3): either, so the first", x.reason(0, 3), 1);
        C.same("reason(0, 2)", x.reason(0, 2), NONE);
        OptimaWorks y = desk(15, 15, 15);
        y.rule(1, 0, 1, 1);
        y.rule(3, 7, 3, 0);
        y.rule(1, 1, 1, 2);
        y.rule(1, 0, 2, 2);
        C.same("reason(0, 3)", y.reason(0, 3), 1);
        C.same("reason(0, 2): 0 and 2, though 3 tells it alone", y.reason(0, 2), 5);
        C.same("reason(2, 0): 2 is the first that tells it", y.reason(2, 0), 4);
        C.same("reason(2, 1)", y.reason(2, 1), 5);
        C.sentence("The REASON why a value is not left to a holder, as bits of rules;");
        OptimaWorks chain = desk(ALL, ALL, ALL, ALL, ALL);
        for (int r = 0; r < 4; r++) {
            chain.rule(1, r, 1, r + 1);
        }
        for (int v = 15; v > 11; v--) {
            C.same("reason(0, " + v + ")", chain.reason(0, v), (1 << 16 - v) - 1);
        }
        C.same("reason(0, 11), left", chain.reason(0, 11), NONE);
        C.sentence("NONE if it is left, or was not there at first, or there is none such.");
        OptimaWorks z = desk(6, 15);
        z.rule(2, 1, 2, 2);
        C.same("reason(0, 1)", z.reason(0, 1), 1);
        C.same("reason(0, 2), left", z.reason(0, 2), NONE);
        C.same("reason(0, 0), not there at first", z.reason(0, 0), NONE);
        C.same("reason(0, 3), not there at first", z.reason(0, 3), NONE);
        int[] none = {-1, 2, 10, LEAST, GREATEST};
        for (int h : none) {
            C.same("reason(" + h + ", 1)", z.reason(h, 1), NONE);
        }
        // Among them such as would be a value that is there if they were taken by their lowest bits.
        int[] noValue = {-1, 16, 17, 18, 32, 33, 34, -32, -31, -30, -16, -15, LEAST, LEAST + 1, LEAST + 2, GREATEST};
        for (int v : noValue) {
            C.same("reason(0, " + v + ")", z.reason(0, v), NONE);
        }
        C.same("reason(0, 0) of a new object", new OptimaWorks().reason(0, 0), NONE);
        // All empty: each value that was there has a reason.
        z.rule(2, 2, 16, 16);
        C.same("reason(0, 2), all empty", z.reason(0, 2), 2);
        C.same("reason(0, 1), the first rule tells it", z.reason(0, 1), 1);
        C.same("reason(1, 3), all empty", z.reason(1, 3), 2);
        C.same("reason(0, 0), not there at first", z.reason(0, 0), NONE);
        OptimaWorks twelve = desk(3);
        for (int r = 0; r < 11; r++) {
            twelve.rule(0, 1, 0, 0);
        }
        twelve.rule(2, 1, 1, 1);
        C.same("reason(0, 0), rule 11", twelve.reason(0, 0), 1 << 11);
    }

    private static void clears() {
        C.sentence("All holders and rules go (pairs stay).");
        OptimaWorks x = desk(3, 3);
        x.pair(1, 1);
        x.rule(4, 0, 1, 0);
        C.same("left(0)", x.left(0), 2);
        x.clear();
        C.same("left(0) behind clear()", x.left(0), NONE);
        C.same("reason(0, 0) behind clear()", x.reason(0, 0), NONE);
        C.same("listed(0, 0) behind clear()", x.listed(0, 0), NONE);
        C.same("listing() behind clear()", x.listing(), 1);
        C.badArgument("a rule of holders that went", () -> x.rule(0, 1, 0, 0));
        C.same("holder()", x.holder(3), 0);
        C.same("holder()", x.holder(3), 1);
        left("no rules", x, 3, 3);
        C.same("rule()", x.rule(4, 0, 1, 0), 0);
        left("pairs stay", x, 2, 1);
        x.clear();
        x.clear();
        C.same("twice", x.listing(), 1);
        OptimaWorks fresh = new OptimaWorks();
        fresh.clear();
        C.same("of a new object", fresh.listing(), 1);
    }
}
