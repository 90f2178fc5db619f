import java.math.BigInteger;
import java.util.Arrays;

/** The sentences of the document that name a boundary of promises 18 to 24, and of its part 4. */
public final class EdgeYearTest {
    private static final int NONE = BestPair.NONE;
    private static final long[] SEEDS = {0, 1, -1, 2, 33, 1L << 32, 1L << 62, Long.MAX_VALUE, Long.MIN_VALUE,
        Long.MIN_VALUE + 1, 6364136223846793005L, -1442695040888963407L};
    private static final String[] MIXED = {"pw90m2", "ps41f41w80", "ps39g2f40w70m0", "pw60f41", "ps41g9w99f45m9", "pw40g0"};

    public static void main(String[] args) {
        all();
        Check.end("EdgeYearTest");
    }

    static void all() {
        yearsLength();
        yearsDraws();
        yearsRefused();
        longs();
        longsCut();
        longsStay();
        cobblersSizes();
        cobblersDoor();
        cobblersRefused();
        odd();
        oddRefused();
        sights();
        sightsRefused();
        agree();
        been();
    }

    private static void yearsLength() {
        Edge.of("YEAR: n EVENINGS (1 .. 60) by a seed", 18);
        int[] many = {1, 2, 29, 30, 31, 59, 60};
        for (int n : many) {
            BestPair x = Check.people(Edge.APART);
            Edge.due("n " + n + ": nobody is BARE", x.year(n, 7), 0);
            Edge.due("n " + n + " in the DIARY", x.count(3), Math.min(30, n));
        }
        for (int n : new int[] {0, -1, 61, 62, Edge.BIG, Edge.SMALL}) {
            Edge.still(Edge::three, "n " + n, t -> t.year(n, 7), NONE);
        }
        BestPair late = Check.people("p;p");
        for (int k = 0; k < 29; k++) {
            late.evening(0, 3, 1);
        }
        late.year(60, 0);
        Edge.due("the DIARY is full in the midst of it", late.count(3), 30);
        BestPair bare = Check.people("ps30;ps30;p");
        Edge.due("how many are BARE: two, when they have come", bare.year(60, 3), 2);
    }

    private static void yearsDraws() {
        Edge.of("a draw of 4: the HOUSE; for each PERSON by numbers a draw of 2: 1: it comes (if none did, all do); "
                + "then the ORDER: guests by numbers in a row, from the last one on each changes its place with that "
                + "of a draw of its place and 1 (the first place is 0; none for the first).", 18);
        int none = 0;
        int alone = 0;
        int everyone = 0;
        for (int many = 2; many <= 6; many++) {
            for (long seed : SEEDS) {
                int[] seen = replay(many, 40, seed);
                none += seen[0];
                alone += seen[1];
                everyone += seen[2];
            }
        }
        Edge.due("none came, at times", none > 0, true);
        Edge.due("one came alone, at times", alone > 0, true);
        Edge.due("all came, at times", everyone > 0, true);

        Edge.of("A draw of m: x, at first the seed, becomes x times 6364136223846793005 and 1442695040888963407 "
                + "(64 bits, going round); then (x shifted right by 33, without sign) modulo m.", 18);
        for (long seed : SEEDS) {
            replay(3, 1, seed);
            replay(6, 60, seed);
        }
    }

    /** A YEAR beside its EVENINGS one by one; how often none, one, all came. */
    private static int[] replay(int many, int n, long seed) {
        String text = String.join(";", Arrays.copyOf(MIXED, many));
        BestPair x = Check.people(text);
        BestPair y = Check.people(text);
        BigInteger[] state = {BigInteger.valueOf(seed)};
        int[] seen = new int[3];
        for (int k = 0; k < n; k++) {
            int house = draw(state, 4);
            int guests = 0;
            for (int person = 0; person < many; person++) {
                guests += draw(state, 2) << person;
            }
            seen[0] += guests == 0 ? 1 : 0;
            seen[1] += Integer.bitCount(guests) == 1 ? 1 : 0;
            seen[2] += Integer.bitCount(guests) == many ? 1 : 0;
            guests = guests == 0 ? (1 << many) - 1 : guests;
            y.evening(house, guests, drawOrder(state, guests));
        }
        int bare = 0;
        for (int person = 0; person < many; person++) {
            bare += y.person(person, 5) == NONE ? 1 : 0;
        }
        String call = "year(" + n + ", " + seed + ") of " + many;
        Edge.due(call, x.year(n, seed), bare);
        Edge.due(call + ": as its EVENINGS", Edge.view(x, 0).equals(Edge.view(y, 0)), true);
        return seen;
    }

    private static int drawOrder(BigInteger[] state, int guests) {
        StringBuilder row = new StringBuilder();
        for (int person = 0; person < 6; person++) {
            if ((guests >> person & 1) == 1) {
                row.append(person);
            }
        }
        for (int place = row.length() - 1; place > 0; place--) {
            int other = draw(state, place + 1);
            char sign = row.charAt(place);
            row.setCharAt(place, row.charAt(other));
            row.setCharAt(other, sign);
        }
        return Integer.parseInt(row.toString());
    }

    private static int draw(BigInteger[] state, int many) {
        BigInteger round = BigInteger.ONE.shiftLeft(64);
        state[0] = state[0].multiply(new BigInteger("6364136223846793005"))
                .add(new BigInteger("1442695040888963407")).mod(round);
        return state[0].shiftRight(33).mod(BigInteger.valueOf(many)).intValue();
    }

    private static void yearsRefused() {
        Edge.of("A YEAR: how many are BARE behind it. NONE: no PEOPLE, out of bounds.", 18);
        for (int n : new int[] {0, -1, 61, Edge.BIG, Edge.SMALL}) {
            Edge.everywhere("year(" + n + ", 5)", t -> t.year(n, 5), NONE);
            Edge.everywhere("year(" + n + ", MIN)", t -> t.year(n, Long.MIN_VALUE), NONE);
        }
        Edge.still(BestPair::new, "year(1, 5)", t -> t.year(1, 5), NONE);
        Edge.still(BestPair::new, "year(60, 5)", t -> t.year(60, 5), NONE);
        Edge.due("all BARE", Check.people("ps30;ps30").year(60, 9), 2);
    }

    private static void longs() {
        Edge.of("LONG: of n EVENINGS (0 .. 20) in HOUSE 0 with all PEOPLE (4 at most), each ORDER as likely, WORTH not "
                + "worn down, from as it is", 19);
        for (int n : new int[] {1, 2, 19, 20}) {
            int often = n;
            Edge.still(() -> Check.people("pw10m9;pw9m9"), "n " + n, t -> t.likely(often, 0, 0), 500000000);
        }
        Edge.still(Edge::three, "n 0: it has it", t -> t.likely(0, 2, 2), 1000000000);
        Edge.still(Edge::three, "n 0: it has it not", t -> t.likely(0, 2, 1), 0);
        Edge.still(Edge::three, "n 0: it is not BARE", t -> t.likely(0, 2, NONE), 0);
        for (int n : new int[] {-1, 21, 22, Edge.BIG, Edge.SMALL}) {
            Edge.still(Edge::three, "n " + n, t -> t.likely(n, 2, 2), NONE);
        }
        Edge.due("two", Check.people("p;p").likely(1, 1, 1), 1000000000);
        Edge.due("three", Check.people("p;p;p").likely(1, 2, 2), 999999996);
        Edge.due("four", Check.people("p;p;p;p").likely(1, 3, 3), 999999984);
        Edge.still(() -> Check.people("p;p;p;p;p"), "five", t -> t.likely(1, 0, 0), NONE);
        Edge.still(() -> Check.people("p;p;p;p;p"), "five, n 0", t -> t.likely(0, 0, 0), NONE);
        Edge.still(() -> Check.people(Edge.ALIKE), "six", t -> t.likely(1, 0, 0), NONE);
        BestPair x = Edge.three();
        x.evening(0, 7, 12);
        Edge.due("n 0, as it is now", x.likely(0, 2, NONE), 1000000000);
        Edge.due("n 0, as it is now", x.likely(0, 0, 1), 1000000000);
    }

    private static void longsCut() {
        Edge.of("parts of 10 to the 9: of each state in each EVENING each ORDER has its parts by how many ORDERS there "
                + "are, cut.", 19);
        // Behind each EVENING: one ORDER leads to one state, two to another, three to a third.
        long share = 1000000000 / 6;
        for (int n = 1; n <= 20; n++) {
            BestPair x = Edge.three();
            Edge.due("n " + n + ": five of six", x.likely(n, 2, 2), 5 * share);
            Edge.due("n " + n + ": one of six", x.likely(n, 2, NONE), share);
            Edge.due("n " + n + ": three of six", x.likely(n, 0, 1), 3 * share);
            share = share / 6 + 2 * share / 6 + 3 * share / 6;
        }
        BestPair one = Check.people("p;p;p");
        Edge.due("one state: cut once", one.likely(20, 0, 0), 999999996);
        Edge.due("one state of four", Check.people("p;p;p;p").likely(20, 0, 0), 999999984);
        Edge.due("nobody BARE", one.likely(20, 0, NONE), 0);
        for (int k = 0; k < 16; k++) {
            // 24 ORDERS lead to 24 states: a PERSON has each PAIR by six of them.
            BestPair four = Check.people("pw9;pw8;pw7;pw6");
            Edge.due("n 1, 24 states", four.likely(1, k / 4, k % 4), 6 * (1000000000 / 24));
            Edge.due("n 2, 24 states", four.likely(2, k / 4, k % 4), 6 * 24 * (1000000000 / 24 / 24));
        }
        BestPair again = Edge.three();
        Edge.due("three states", again.likely(2, 2, 2), 833333325);
        for (int person = 0; person < 3; person++) {
            again.rule(person, Check.rule(again, "y:o"));
        }
        Edge.due("asked again: each its own, one state", again.likely(2, 2, 2), 999999996);
        for (int person = 0; person < 3; person++) {
            again.rule(person, NONE);
        }
        Edge.due("asked again: three states", again.likely(2, 2, 2), 833333325);

        Edge.of("LONG. NONE: no such ones, more than 4 PEOPLE.", 19);
        int[][] wrong = {{-1, 0, 0}, {21, 0, 0}, {1, -1, 0}, {1, 6, 0}, {1, 4, 0}, {1, 0, -2}, {1, 0, 6}, {0, 0, -2},
            {0, -1, -1}, {1, 0, Edge.BIG}, {1, Edge.BIG, 0}, {1, 0, Edge.SMALL}, {1, Edge.SMALL, 0}};
        for (int[] w : wrong) {
            String call = "likely(" + w[0] + ", " + w[1] + ", " + w[2] + ")";
            Edge.everywhere(call, t -> t.likely(w[0], w[1], w[2]), NONE);
        }
        Edge.still(BestPair::new, "likely(0, 0, NONE)", t -> t.likely(0, 0, NONE), NONE);
        Edge.still(Edge::busy, "PERSON 3 of three", t -> t.likely(1, 3, 0), NONE);
        Edge.still(Edge::busy, "PAIR 3 of three", t -> t.likely(1, 0, 3), NONE);
        Edge.still(Edge::full, "six PEOPLE", t -> t.likely(1, 0, 0), NONE);
    }

    private static void longsStay() {
        Edge.of("(PAIRS of other HOUSES stay there)", 19);
        for (int house = 0; house < 4; house++) {
            BestPair x = Edge.three();
            x.evening(house, 7, 12);
            Edge.due("PAIR 0 in HOUSE " + house, x.likely(1, 0, 0), house == 0 ? 499999998 : 0);
            Edge.due("0 is BARE, if both others were ahead", x.likely(1, 0, NONE), house == 0 ? 0 : 333333332);
            Edge.due("now nobody has it", x.likely(0, 0, 0), 0);
        }

        Edge.of("how likely one has a PAIR (NONE: BARE) behind them", 19);
        BestPair bare = Check.people("ps30;ps30");
        Edge.due("BARE for sure", bare.likely(1, 0, NONE), 1000000000);
        Edge.due("asked again", bare.likely(1, 0, NONE), 1000000000);
        Edge.due("asked again", bare.likely(20, 1, NONE), 1000000000);
        Edge.due("not yet", bare.likely(0, 0, NONE), 0);
    }

    private static void cobblersSizes() {
        Edge.of("COBBLER: one of the guests comes in a new PAIR of a told WORTH, of a size 20 .. 50, under its own number",
                20);
        Edge.due("the least size", Check.people("ps20g0;p").cobbler(0, 3, 0, 9, 0), 20);
        Edge.due("the least size, always", Check.people("ps20g0;p").cobbler(0, 3, 0, 9, 1), 2);
        Edge.due("the greatest size", Check.people("ps50g0;p").cobbler(0, 3, 0, 9, 0), 50);
        Edge.due("the greatest size, always", Check.people("ps50g9;p").cobbler(0, 3, 0, 9, 1), 2);
        BestPair small = Check.people("p;p");
        small.rule(0, Check.rule(small, "y:f<0-19?1"));
        Edge.due("40 less 20", small.cobbler(0, 1, 0, 9, 0), 20);
        small.rule(0, Check.rule(small, "y:f<0-20?1"));
        Edge.due("no size 19: never", small.cobbler(0, 1, 0, 9, 1), 0);
        small.rule(0, Check.rule(small, "y:f>9?1"));
        Edge.due("40 and 10", small.cobbler(0, 1, 0, 9, 0), 50);
        small.rule(0, Check.rule(small, "y:f>10?1"));
        Edge.due("no size 51: never", small.cobbler(0, 1, 0, 9, 1), 0);

        Edge.of("over all ORDERS how often it goes home in that one; the size by which that is most (of several the "
                + "least).", 20);
        Edge.due("30 to 35 alike", Check.people("ps30g5;p").cobbler(0, 1, 0, 9, 0), 30);
        Edge.due("only behind the other one", Check.people("pw50;pw60").cobbler(0, 3, 1, 0, 1), 1);
        BestPair never = Check.people("p;p");
        never.rule(0, Check.rule(never, "y:0"));
        Edge.due("never: how often", never.cobbler(0, 3, 0, 99, 1), 0);
        never.rule(0, Check.rule(never, "y:n=1?1"));
        Edge.due("only of one at the door", never.cobbler(0, 1, 0, 99, 1), 1);
        Edge.due("never of two, first; last it is taken", never.cobbler(0, 3, 0, 99, 1), 1);
        Edge.due("never: the least size", never.cobbler(0, 3, 0, 99, 0), 20);
        BestPair large = Check.people("ps40g9;ps40g1w0f40");
        Edge.due("a size that the other one cannot wear", large.cobbler(0, 3, 0, 50, 0), 42);
        Edge.due("always", large.cobbler(0, 3, 0, 50, 1), 2);
        Edge.due("all of 720", Check.people(Edge.APART).cobbler(0, 63, 5, 50, 1), 720);
        Edge.due("all of 720", Check.people(Edge.APART).cobbler(0, 63, 5, 50, 0), 45);
    }

    private static BestPair left() {
        BestPair x = Edge.three();
        x.evening(0, 7, 12);
        return x;
    }

    private static void cobblersDoor() {
        Edge.of("(that PAIR is away, wherever it was, and what it has stays at home)", 20);
        // PAIR 0 is in HOUSE 0, 0 has PAIR 1, 1 has PAIR 2, 2 is BARE.
        Edge.still(EdgeYearTest::left, "2's is with 1, who comes in none", t -> t.cobbler(0, 6, 2, 50, 1), 1);
        Edge.still(EdgeYearTest::left, "of size 42", t -> t.cobbler(0, 6, 2, 50, 0), 42);
        Edge.still(EdgeYearTest::left, "2's is with 1, who is no guest", t -> t.cobbler(0, 4, 2, 0, 1), 1);
        Edge.still(EdgeYearTest::left, "0's is in the HOUSE, PAIR 1 stays at home, 20 is its own",
                t -> t.cobbler(0, 3, 0, 20, 1), 2);
        Edge.still(EdgeYearTest::left, "PAIR 2 is better than 19", t -> t.cobbler(0, 3, 0, 19, 1), 1);
        Edge.still(EdgeYearTest::left, "0's is in another HOUSE", t -> t.cobbler(1, 3, 0, 20, 1), 2);
        Edge.still(EdgeYearTest::left, "alone", t -> t.cobbler(0, 1, 0, 0, 1), 1);
        // 1 leaves PAIR 2 at home; PAIR 0 of the HOUSE is too small for it.
        Edge.still(EdgeYearTest::left, "1's is with 0, who is no guest", t -> t.cobbler(0, 2, 1, 0, 0), 41);
    }

    private static void cobblersRefused() {
        Edge.of("COBBLER: the size (what 0), how often (1). NONE: no such ones (worth 0 .. 99), it is no guest.", 20);
        Edge.still(Edge::three, "WORTH 0", t -> t.cobbler(0, 4, 2, 0, 1), 1);
        Edge.still(Edge::three, "WORTH 99", t -> t.cobbler(3, 4, 2, 99, 1), 1);
        BestPair x = Check.people("pw99;p");
        Edge.due("99 is its own of several", x.cobbler(0, 3, 1, 99, 1), 2);
        Edge.due("98 only, when 0 went", x.cobbler(0, 3, 1, 98, 1), 1);
        int[][] wrong = {{-1, 3, 0, 9, 0}, {4, 3, 0, 9, 0}, {0, 0, 0, 9, 0}, {0, 64, 6, 9, 0}, {0, -1, 0, 9, 0},
            {0, 3, -1, 9, 0}, {0, 3, 6, 9, 0}, {0, 3, 32, 9, 0}, {0, 3, 2, 9, 0}, {0, 2, 0, 9, 0}, {0, 3, 0, -1, 0},
            {0, 3, 0, 100, 0}, {0, 3, 0, Edge.BIG, 1}, {0, 3, 0, Edge.SMALL, 1}, {0, 3, 0, 9, -1}, {0, 3, 0, 9, 2},
            {0, 3, 0, 9, Edge.BIG}, {0, 3, 0, 9, Edge.SMALL}, {0, 3, Edge.BIG, 9, 0}, {0, 3, Edge.SMALL, 9, 0}};
        for (int[] w : wrong) {
            String call = "cobbler(" + w[0] + ", " + w[1] + ", " + w[2] + ", " + w[3] + ", " + w[4] + ")";
            Edge.everywhere(call, t -> t.cobbler(w[0], w[1], w[2], w[3], w[4]), NONE);
        }
        Edge.still(BestPair::new, "cobbler(0, 1, 0, 9, 0)", t -> t.cobbler(0, 1, 0, 9, 0), NONE);
        Edge.still(Edge::busy, "PERSON 3 of three", t -> t.cobbler(0, 7, 3, 9, 0), NONE);
        Edge.still(Edge::busy, "guests 8 of three", t -> t.cobbler(0, 8, 3, 9, 0), NONE);
    }

    private static void odd() {
        Edge.of("ODD: n (2 .. 5) LEFT shoes and RIGHT ones mixed, told as a row (digits to the base 10, the first the "
                + "highest: which RIGHT is with LEFT 0, 1 ..).", 21);
        int[][] rows = {{2, 1, 0}, {2, 10, 1}, {3, 12, 0}, {3, 21, 1}, {3, 120, 2}, {4, 123, 0}, {4, 3210, 2},
            {4, 1230, 3}, {5, 1234, 0}, {5, 12340, 4}, {5, 43210, 2}};
        for (int[] r : rows) {
            Edge.everywhere("odd(" + r[0] + ", " + r[1] + ", 2)", t -> t.odd(r[0], r[1], 2), r[2]);
        }
        for (int n : new int[] {0, 1, 6, -1, -2, 10, Edge.BIG, Edge.SMALL}) {
            for (int row : new int[] {0, 1, 10, 12345}) {
                Edge.still(BestPair::new, "n " + n, t -> t.odd(n, row, 2), NONE);
            }
        }
        int[][] wrong = {{2, 0}, {2, 2}, {2, 11}, {2, 12}, {2, 21}, {2, 100}, {2, 110}, {2, -1}, {2, -10}, {3, 1}, {3, 10},
            {3, 11}, {3, 13}, {3, 112}, {3, 123}, {3, 1012}, {3, 3012}, {5, 123}, {5, 1233}, {5, 1235}, {5, 12345},
            {5, 101234}, {5, 112340}, {5, 100012340}, {5, 1000012340}, {5, Edge.BIG}, {5, Edge.SMALL}, {5, -1234},
            {4, 1234}, {4, 12340}};
        for (int[] w : wrong) {
            Edge.still(Edge::busy, "odd(" + w[0] + ", " + w[1] + ", 2)", t -> t.odd(w[0], w[1], 2), NONE);
        }

        Edge.of("In a MEETING of G (2 .. n) of those who have them any RIGHT ones among these may be given round: "
                + "the fewest MEETINGS till all are with their own.", 21);
        int[][] due = {{3, 120, 2, 2}, {3, 120, 3, 1}, {3, 21, 3, 1}, {4, 1230, 3, 2}, {4, 1230, 4, 1}, {4, 1032, 2, 2},
            {4, 1032, 3, 2}, {4, 1032, 4, 1}, {5, 12340, 3, 2}, {5, 12340, 4, 2}, {5, 12340, 5, 1}, {5, 10342, 2, 3},
            {5, 10342, 3, 2}, {5, 10342, 4, 2}, {5, 10342, 5, 1}, {5, 1234, 5, 0}, {5, 1243, 5, 1}, {5, 2134, 2, 1}};
        for (int[] d : due) {
            Edge.due("odd(" + d[0] + ", " + d[1] + ", " + d[2] + ")", new BestPair().odd(d[0], d[1], d[2]), d[3]);
        }
        int[] own = {0, 0, 1, 12, 123, 1234};
        for (int n = 2; n <= 5; n++) {
            for (int many : new int[] {Edge.SMALL, -1, 0, 1, n + 1, n + 2, Edge.BIG}) {
                int of = n;
                Edge.still(Edge::busy, "G " + many + " of " + n, t -> t.odd(of, own[of], many), NONE);
            }
            for (int many = 2; many <= n; many++) {
                Edge.due("G " + many + " of " + n, new BestPair().odd(n, own[n], many), 0);
            }
        }
    }

    private static void oddRefused() {
        Edge.of("ODD. NONE: no such ones.", 21);
        int most = 10;
        BestPair x = new BestPair();
        for (int n = 2; n <= 5; n++) {
            most *= 10;
            for (int row = -most; row < 2 * most; row++) {
                // An object is used for at most 512 calls.
                x = row % 500 == 0 ? new BestPair() : x;
                Edge.due("odd(" + n + ", " + row + ", 2)", x.odd(n, row, 2) >= 0, isMixed(n, row));
            }
        }
        int[][] wrong = {{1, 0, 2}, {6, 12345, 2}, {2, 11, 2}, {2, 10, 1}, {2, 10, 3}, {5, 12340, 6}};
        for (int[] w : wrong) {
            Edge.everywhere("odd(" + w[0] + ", " + w[1] + ", " + w[2] + ")", t -> t.odd(w[0], w[1], w[2]), NONE);
        }
        Edge.still(BestPair::new, "no PEOPLE are needed", t -> t.odd(2, 10, 2), 1);
    }

    private static boolean isMixed(int n, int row) {
        int digits = 0;
        int rest = Math.max(0, row);
        for (int k = 0; k < n; k++) {
            digits |= 1 << rest % 10;
            rest /= 10;
        }
        return row >= 0 && rest == 0 && digits == (1 << n) - 1;
    }

    /** So many SIGHTS of one EVENING. */
    private static BestPair seen(int many) {
        BestPair x = Edge.three();
        x.evening(1, 7, 12);
        for (int k = 0; k < many; k++) {
            x.sight(0, 11, 40);
        }
        return x;
    }

    private static void sights() {
        Edge.of("SIGHTS (20 at most): behind an EVENING of the DIARY (its place) a PAIR of a size was with a PERSON "
                + "(or HOUSE: 10 and it).", 22, 34);
        for (int many = 0; many <= 20; many++) {
            Edge.due("SIGHTS", seen(many).count(4), many);
        }
        Edge.due("the first", seen(0).sight(0, 11, 40), 1);
        Edge.due("the 19th", seen(18).sight(0, 11, 40), 19);
        Edge.due("the 20th", seen(19).sight(0, 11, 40), 20);
        Edge.still(() -> seen(20), "a 21st", t -> t.sight(0, 11, 40), NONE);
        Edge.still(() -> seen(20), "a 21st, of another", t -> t.sight(0, 0, 50), NONE);
        BestPair x = seen(20);
        x.sight(0, 0, 50);
        Edge.due("all 20 hold, a 21st does not count", x.agree(), 1);
        BestPair y = seen(19);
        y.sight(0, 0, 50);
        Edge.due("the 20th counts", y.agree(), 0);
        Edge.still(Edge::full, "a 21st", t -> t.sight(0, 0, 40), NONE);
    }

    private static void sightsRefused() {
        Edge.of("A SIGHT: how many there are. NONE: no such ones (an EVENING of the DIARY; size 20 .. 50), there are 20.",
                22);
        for (int size : new int[] {20, 21, 49, 50}) {
            Edge.due("size " + size, seen(0).sight(0, 0, size), 1);
        }
        for (int size : new int[] {19, 51, 0, -20, Edge.BIG, Edge.SMALL}) {
            Edge.everywhere("size " + size, t -> t.sight(0, 0, size), NONE);
        }
        for (int where : new int[] {0, 2, 10, 11, 12, 13}) {
            Edge.due("where " + where, seen(0).sight(0, where, 40), 1);
        }
        for (int where : new int[] {-1, 3, 4, 5, 6, 7, 8, 9, 14, 15, -10, Edge.BIG, Edge.SMALL}) {
            Edge.still(() -> seen(0), "where " + where, t -> t.sight(0, where, 40), NONE);
        }
        Edge.due("PERSON 5 of six", sixSeen().sight(0, 5, 40), 1);
        Edge.still(EdgeYearTest::sixSeen, "PERSON 6 of six", t -> t.sight(0, 6, 40), NONE);
        Edge.still(EdgeYearTest::sixSeen, "the 31st EVENING", t -> t.sight(30, 0, 40), NONE);
        Edge.due("the 30th EVENING", sixSeen().sight(29, 0, 40), 1);
        Edge.due("the last EVENING of three", Edge.busy().sight(2, 0, 40), 3);
        for (int evening : new int[] {-1, 3, 4, 29, 30, Edge.BIG, Edge.SMALL}) {
            Edge.still(Edge::busy, "EVENING " + evening, t -> t.sight(evening, 0, 40), NONE);
        }
        Edge.still(Edge::three, "no EVENING yet", t -> t.sight(0, 0, 40), NONE);
        Edge.still(BestPair::new, "no PEOPLE", t -> t.sight(0, 0, 40), NONE);
        Edge.still(BestPair::new, "no PEOPLE", t -> t.sight(0, 10, 40), NONE);
    }

    private static BestPair sixSeen() {
        BestPair x = Check.people(Edge.ALIKE);
        for (int k = 0; k < 31; k++) {
            x.evening(0, 63, 12345);
        }
        return x;
    }

    private static void agree() {
        Edge.of("AGREE: PAIRS (bits) that are of all these sizes and were there.", 23);
        Edge.still(Edge::three, "no SIGHT: all", t -> t.agree(), 7);
        Edge.still(() -> Check.people(Edge.ALIKE), "no SIGHT: all six", t -> t.agree(), 63);
        Edge.still(() -> Check.people("p;p"), "no SIGHT: both", t -> t.agree(), 3);
        BestPair x = Check.people("ps30;ps30;p");
        x.evening(3, 3, 1);
        x.evening(3, 4, 2);
        x.sight(0, 13, 40);
        Edge.due("two of the size were there", x.agree(), 3);
        x.sight(1, 13, 40);
        Edge.due("and behind the next", x.agree(), 3);
        x.evening(0, 4, 2);
        x.sight(2, 2, 40);
        Edge.due("none was at both", x.agree(), 0);
        BestPair later = Check.people("pw50;pw60");
        later.evening(0, 3, 1);
        later.evening(0, 3, 10);
        later.evening(0, 3, 1);
        later.sight(1, 1, 40);
        Edge.due("behind the second PAIR 1 was with 1", later.agree(), 2);
        later.sight(0, 0, 40);
        Edge.due("behind the first it was with 0", later.agree(), 2);
        later.sight(2, 1, 40);
        Edge.due("behind the third it was with 0", later.agree(), 0);
        BestPair y = Check.people("ps30;ps30f41;p");
        y.evening(3, 3, 1);
        y.sight(0, 13, 41);
        Edge.due("of the size one was there", y.agree(), 2);
        y.sight(0, 13, 40);
        Edge.due("none is of both sizes", y.agree(), 0);
        BestPair z = Check.people("pf20;pf50");
        z.evening(1, 3, 1);
        z.sight(0, 11, 50);
        Edge.due("size 50", z.agree(), 2);

        Edge.of("AGREE. NONE: no PEOPLE.", 23);
        Edge.still(BestPair::new, "agree()", t -> t.agree(), NONE);
        Edge.still(Edge::busy, "only asked: 40 in HOUSE 1, then with 0", t -> t.agree(), 0);
    }

    private static void been() {
        Edge.of("BEEN: how many different places a PAIR has been at, by the DIARY; the i-th EVENING's place.", 24);
        Edge.still(Edge::three, "no EVENING: none", t -> t.been(0, NONE), 0);
        BestPair x = Check.people("ps30;ps39w60;p");
        int[][] evenings = {{0, 1, 0}, {0, 6, 12}, {1, 4, 2}, {0, 2, 1}, {2, 6, 21}};
        for (int[] e : evenings) {
            x.evening(e[0], e[1], e[2]);
        }
        Edge.due("PAIR 1 with 1", x.been(1, 1), 1);
        Edge.due("PAIR 0 in HOUSE 0", x.been(0, 0), 10);
        Edge.due("PAIR 1: with 1, then with 2", x.been(1, NONE), 2);
        Edge.due("PAIR 1 behind the last", x.been(1, 4), 2);
        Edge.due("PAIR 2 behind the last", x.been(2, 4), 1);
        Edge.due("PAIR 0 stays: one place", x.been(0, NONE), 1);
        BestPair first = Check.people("pw50;pw60");
        first.evening(0, 3, 1);
        Edge.due("one EVENING: one place", first.been(1, NONE), 1);
        first.evening(0, 3, 10);
        Edge.due("the first EVENING's, too", first.been(1, NONE), 2);
        first.evening(0, 3, 1);
        Edge.due("a place twice is one", first.been(1, NONE), 2);

        Edge.of("BEEN: how many (i NONE), where behind the i-th EVENING. NONE: no such ones.", 24);
        Edge.still(Edge::three, "i 0 of none", t -> t.been(0, 0), NONE);
        Edge.still(Edge::busy, "i 2 of three", t -> t.been(1, 2) == NONE ? 1 : 0, 0);
        Edge.still(Edge::busy, "i 3 of three", t -> t.been(1, 3), NONE);
        Edge.still(Edge::full, "i 29 of thirty", t -> t.been(5, 29) == NONE ? 1 : 0, 0);
        Edge.still(Edge::full, "i 30 of thirty", t -> t.been(5, 30), NONE);
        for (int i : new int[] {-2, 30, Edge.BIG, Edge.SMALL}) {
            Edge.everywhere("i " + i, t -> t.been(0, i), NONE);
        }
        for (int pair : new int[] {-1, 6, 10, Edge.BIG, Edge.SMALL}) {
            Edge.everywhere("PAIR " + pair, t -> t.been(pair, NONE), NONE);
            Edge.everywhere("PAIR " + pair + ", i 0", t -> t.been(pair, 0), NONE);
        }
        Edge.still(BestPair::new, "been(0, NONE)", t -> t.been(0, NONE), NONE);
        Edge.still(Edge::busy, "PAIR 3 of three", t -> t.been(3, NONE), NONE);
        Edge.still(Edge::busy, "PAIR 2 of three", t -> t.been(2, NONE) == NONE ? 1 : 0, 0);
    }
}
