/** The sentences of the document that name a boundary of promises 11 to 17, and of its part 3. */
public final class EdgeOrderTest {
    private static final int NONE = BestPair.NONE;
    private static final int HIDDEN = BestPair.HIDDEN;
    /** PERSON 0 waits for joy, and both would go in PAIR 1. */
    private static final String WAITING = "pw10j1;pw12j0";
    /** Whatever both tell, one of them would have more by another ROUND. */
    private static final String RESTLESS = "pw10j1;pw12j1";

    public static void main(String[] args) {
        all();
        Check.end("EdgeOrderTest");
    }

    static void all() {
        tried();
        ordersOfAll();
        worst();
        hosts();
        hostsOfSeveral();
        hide();
        rises();
        rests();
        comes();
        quiet();
    }

    private static void tried() {
        Edge.of("TRIED, apart: guests, HOUSE, ORDER as for an EVENING; who goes in what.", 11);
        Edge.still(Edge::three, "tried(3, 7, 12, 0)", t -> t.tried(3, 7, 12, 0), 1);
        Edge.still(Edge::three, "tried(0, 7, 12, 1)", t -> t.tried(0, 7, 12, 1), 2);
        Edge.still(Edge::three, "tried(0, 7, 12, 2)", t -> t.tried(0, 7, 12, 2), NONE);
        Edge.still(Edge::three, "tried(0, 4, 2, 2)", t -> t.tried(0, 4, 2, 2), 2);
        Edge.still(Edge::full, "tried(0, 63, 543210, 5)", t -> t.tried(0, 63, 543210, 5) == HIDDEN ? 1 : 0, 0);

        Edge.of("TRIED: in what one goes (NONE: BARE). HIDDEN: no such ones, it is no guest.", 11);
        int[][] wrong = {{-1, 3, 1, 0}, {4, 3, 1, 0}, {0, 0, 0, 0}, {0, 64, 6, 6}, {0, -1, 1, 0}, {0, 3, 11, 0},
            {0, 3, 102, 0}, {0, 3, -1, 0}, {0, 3, 0, 0}, {0, 3, 1, -1}, {0, 3, 1, 6}, {0, 3, 1, 32}, {0, 3, 1, Edge.BIG},
            {0, 3, 1, Edge.SMALL}, {0, 3, 1, 2}, {0, 2, 1, 0}, {0, 1, 0, 1}};
        for (int[] w : wrong) {
            String call = "tried(" + w[0] + ", " + w[1] + ", " + w[2] + ", " + w[3] + ")";
            Edge.everywhere(call, t -> t.tried(w[0], w[1], w[2], w[3]), HIDDEN);
        }
        Edge.still(BestPair::new, "tried(0, 1, 0, 0)", t -> t.tried(0, 1, 0, 0), HIDDEN);
        Edge.still(Edge::busy, "tried(0, 8, 3, 3) of three", t -> t.tried(0, 8, 3, 3), HIDDEN);
        Edge.still(Edge::busy, "tried(0, 7, 12, 3) of three", t -> t.tried(0, 7, 12, 3), HIDDEN);
    }

    private static void ordersOfAll() {
        Edge.of("ORDERS of some guests: of all in how many one goes in a PAIR (or BARE)", 12);
        int[] all = {1, 2, 6, 24, 120, 720};
        for (int many = 1; many <= 6; many++) {
            int guests = (1 << many) - 1;
            BestPair x = Check.people(Edge.APART);
            Edge.due("all of " + many, x.orders(0, guests, many - 1, many - 1), all[many - 1]);
            Edge.due("none of " + many, x.orders(0, guests, many - 1, NONE), 0);
            Edge.due("another's of " + many, x.orders(0, guests, 0, 5), 0);
            BestPair y = Check.people("ps30;ps30;ps30;ps30;ps30;ps30");
            Edge.due("BARE of " + many, y.orders(0, guests, 0, NONE), all[many - 1]);
        }
        BestPair three = Edge.three();
        Edge.due("once: 012", three.orders(0, 7, 1, 2), 1);
        Edge.due("five times", three.orders(0, 7, 2, 2), 5);
        Edge.due("once BARE", three.orders(0, 7, 2, NONE), 1);

        Edge.of("ORDERS in which one goes in a PAIR (NONE: BARE). HIDDEN: no such ones, it is no guest.", 12);
        int[][] wrong = {{-1, 3, 0, 0}, {4, 3, 0, 0}, {0, 0, 0, 0}, {0, 64, 6, 0}, {0, -1, 0, 0}, {0, 3, -1, 0},
            {0, 3, 6, 0}, {0, 3, 32, 0}, {0, 3, 2, 0}, {0, 2, 0, 0}, {0, 3, 0, -2}, {0, 3, 0, 6}, {0, 3, 0, Edge.BIG},
            {0, 3, 0, Edge.SMALL}, {0, 3, Edge.BIG, 0}, {0, 3, Edge.SMALL, 0}};
        for (int[] w : wrong) {
            String call = "orders(" + w[0] + ", " + w[1] + ", " + w[2] + ", " + w[3] + ")";
            Edge.everywhere(call, t -> t.orders(w[0], w[1], w[2], w[3]), HIDDEN);
        }
        Edge.still(BestPair::new, "orders(0, 1, 0, NONE)", t -> t.orders(0, 1, 0, NONE), HIDDEN);
        Edge.still(Edge::busy, "PAIR 3 of three", t -> t.orders(0, 7, 0, 3), HIDDEN);
        Edge.still(Edge::busy, "PERSON 3 of three", t -> t.orders(0, 7, 3, 0), HIDDEN);
        Edge.still(Edge::busy, "guests 8 of three", t -> t.orders(0, 8, 3, 0), HIDDEN);
        Edge.still(Edge::three, "PAIR 2 of three, only asked", t -> t.orders(3, 7, 0, 2), 0);
        Edge.still(Edge::three, "a PAIR that is not there", t -> t.orders(0, 3, 0, 2), 0);
    }

    private static void worst() {
        Edge.of("the one in which it goes in the least WORTH together over all ORDERS with it there "
                + "(BARE 0; of several the first).", 13);
        BestPair x = Edge.three();
        Edge.due("0: 70 70, 70 50, 50 50", x.worst(0, 7, 0), 2);
        Edge.due("1: 70 70, 20 70, BARE BARE", x.worst(0, 7, 1), 2);
        Edge.due("alone", x.worst(0, 2, 1), 0);
        Edge.due("all alike: the first", Check.people(Edge.APART).worst(0, 63, 5), 0);
        Edge.due("BARE everywhere: the first", Check.people("ps30;p;p").worst(0, 7, 0), 0);
        BestPair two = Check.people("pw9;pw0;pf50w0");
        Edge.due("BARE is as WORTH 0: 9 9, 0 0, BARE BARE", two.worst(0, 7, 0), 1);
        Edge.due("of six the last", Check.people("pw9;pw8;pw7;pw6;pw5;pw4").worst(0, 63, 0), 5);
        BestPair byRule = Check.people("pw9f41;pg0w8");
        byRule.rule(0, Check.rule(byRule, "y:100-w"));
        for (int k = 0; k < 3; k++) {
            Edge.due("1: 8 first, BARE later", byRule.worst(0, 3, 1), 1);
            Edge.due("0: 8 first, 9 later", byRule.worst(0, 3, 0), 0);
        }
        BestPair second = Check.people("pw9;pw8;pw7");
        second.rule(0, Check.rule(second, "y:n=2?1;y:w"));
        Edge.due("9 9, 8 8, 7 7", second.worst(0, 7, 0), 2);

        Edge.of("WORST place (0 ..) for one. NONE: no such ones, it is no guest.", 13);
        int[][] wrong = {{-1, 3, 0}, {4, 3, 0}, {0, 0, 0}, {0, 64, 6}, {0, -1, 0}, {0, 3, -1}, {0, 3, 6}, {0, 3, 32},
            {0, 3, 2}, {0, 2, 0}, {0, 3, Edge.BIG}, {0, 3, Edge.SMALL}};
        for (int[] w : wrong) {
            String call = "worst(" + w[0] + ", " + w[1] + ", " + w[2] + ")";
            Edge.everywhere(call, t -> t.worst(w[0], w[1], w[2]), NONE);
        }
        Edge.still(BestPair::new, "worst(0, 1, 0)", t -> t.worst(0, 1, 0), NONE);
        Edge.still(Edge::busy, "PERSON 3 of three", t -> t.worst(0, 7, 3), NONE);
        Edge.still(Edge::busy, "guests 8 of three", t -> t.worst(0, 8, 3), NONE);
        Edge.still(Edge::three, "only asked", t -> t.worst(3, 7, 2), 2);
    }

    private static void hosts() {
        Edge.of("HOST by a wish (0 .. 3): the ORDER (what 0), how many or how much (1). NONE: no such ones.", 14);
        int[][] wrong = {{-1, 3, 0, 0}, {4, 3, 0, 0}, {0, 0, 0, 0}, {0, 64, 0, 0}, {0, -1, 0, 0}, {0, 3, -1, 0},
            {0, 3, 4, 0}, {0, 3, Edge.BIG, 0}, {0, 3, Edge.SMALL, 1}, {0, 3, 0, -1}, {0, 3, 0, 2}, {0, 3, 3, 2},
            {0, 3, 0, Edge.BIG}, {0, 3, 0, Edge.SMALL}};
        for (int[] w : wrong) {
            String call = "host(" + w[0] + ", " + w[1] + ", " + w[2] + ", " + w[3] + ")";
            Edge.everywhere(call, t -> t.host(w[0], w[1], w[2], w[3]), NONE);
        }
        Edge.still(BestPair::new, "host(0, 1, 0, 0)", t -> t.host(0, 1, 0, 0), NONE);
        Edge.still(Edge::busy, "guests 8 of three", t -> t.host(0, 8, 0, 0), NONE);
        int[] much = {0, 140, 3, 20};
        for (int wish = 0; wish < 4; wish++) {
            int by = wish;
            Edge.still(Edge::three, "ORDER by wish " + wish, t -> t.host(3, 7, by, 0), 102);
            Edge.still(Edge::three, "much by wish " + wish, t -> t.host(3, 7, by, 1), much[wish]);
        }
        Edge.due("one guest", Edge.three().host(0, 4, 3, 0), 2);
        Edge.due("one guest", Edge.three().host(0, 1, 0, 0), 0);
    }

    private static void hostsOfSeveral() {
        Edge.of("HOST: of all ORDERS the one by which: 0 fewest are BARE, 1 the WORTH of PAIRS that are worn is most, "
                + "2 most go in their own PAIR, 3 the least WORTH that one goes in is greatest (BARE 0) (of several ORDERS "
                + "the least as a number); how many, or how much.", 14);
        Edge.due("all of six alike: the least", Check.people(Edge.APART).host(0, 63, 0, 0), 12345);
        Edge.due("all of six alike: the least", Check.people(Edge.APART).host(0, 63, 3, 0), 12345);
        Edge.due("of 102, 120, 210", Edge.three().host(0, 7, 2, 0), 102);
        BestPair bare = Check.people("ps30w99;p;p");
        Edge.due("one is BARE ever: 0", bare.host(0, 7, 3, 1), 0);
        Edge.due("the least", bare.host(0, 7, 3, 0), 12);
        Edge.due("one of three is BARE", bare.host(0, 7, 0, 1), 1);
        Edge.due("99 and 50", bare.host(0, 7, 1, 1), 149);
        Edge.due("one in its own", bare.host(0, 7, 2, 1), 1);
        // 1 needs PAIR 1, 2 needs PAIR 0, and 0 would take both rather than PAIR 2.
        BestPair last = Check.people("pg9f41w50;pf40w60g0;ps41g0w1f42");
        int[][] due = {{120, 0}, {120, 111}, {102, 2}, {120, 1}};
        for (int wish = 0; wish < 4; wish++) {
            Edge.due("the least ORDER by " + wish, last.host(0, 7, wish, 0), due[wish][0]);
            Edge.due("how much by " + wish, last.host(0, 7, wish, 1), due[wish][1]);
        }
        Edge.due("all of WORTH 99", Check.people("pw99;pw99").host(0, 3, 3, 1), 99);
        Edge.due("all of WORTH 0", Check.people("pw0;pw0").host(0, 3, 3, 1), 0);
        Edge.due("six of WORTH 99", Check.people("pw99;pw99;pw99;pw99;pw99;pw99").host(0, 63, 1, 1), 594);

        Edge.of("(WORTH always as it is ahead of the way home.)", 13, 14, 16, 26);
        BestPair x = Check.people("pw10m9;pw10m9");
        Edge.due("10 and 10", x.host(0, 3, 1, 1), 20);
        Edge.due("10", x.host(0, 3, 3, 1), 10);
        x.evening(0, 3, 1);
        Edge.due("1 and 1", x.host(0, 3, 1, 1), 2);
        Edge.due("1", x.host(0, 3, 3, 1), 1);
    }

    private static void hide() {
        Edge.of("HIDE: PAIRS at the door (bits) without which alone (hidden, it stays in the HOUSE) a guest goes in a told "
                + "PAIR (NONE: BARE) by an ORDER.", 15);
        BestPair x = Edge.three();
        Edge.due("0 by 012 in 0: without 1", x.hide(0, 7, 12, 0, 0), 2);
        Edge.due("1 by 012 in 1: never", x.hide(0, 7, 12, 1, 1), 0);
        Edge.due("1 by 012 BARE: without 2", x.hide(0, 7, 12, 1, NONE), 4);
        Edge.due("2 by 012 BARE: without any", x.hide(0, 7, 12, 2, NONE), 7);
        Edge.due("2 by 210 in 2: without 0, without 1", x.hide(0, 7, 210, 2, 2), 3);
        Edge.due("only PAIRS at the door", x.hide(0, 4, 2, 2, NONE), 4);
        Edge.due("the last of six", Check.people(Edge.APART).hide(0, 63, 12345, 5, NONE), 32);
        Edge.due("all others of six", Check.people(Edge.APART).hide(0, 63, 12345, 5, 5), 31);
        x.evening(0, 7, 12);
        Edge.due("the HOUSE's, too", x.hide(0, 1, 0, 0, 0), 2);
        Edge.due("nothing stands there", x.hide(1, 4, 2, 2, NONE), 0);
        x.rule(0, Check.rule(x, "y:n=1?1"));
        Edge.due("what is hidden is not at the door: 0 without 1", x.hide(0, 1, 0, 0, 0), 2);

        Edge.of("HIDE. NONE: no such ones, it is no guest.", 15);
        int[][] wrong = {{-1, 3, 1, 0, 0}, {4, 3, 1, 0, 0}, {0, 0, 0, 0, 0}, {0, 64, 6, 6, 0}, {0, -1, 1, 0, 0},
            {0, 3, 11, 0, 0}, {0, 3, 102, 0, 0}, {0, 3, -1, 0, 0}, {0, 3, 1, -1, 0}, {0, 3, 1, 6, 0}, {0, 3, 1, 32, 0},
            {0, 3, 1, 2, 0}, {0, 2, 1, 0, 0}, {0, 3, 1, 0, -2}, {0, 3, 1, 0, 6}, {0, 3, 1, 0, Edge.BIG},
            {0, 3, 1, 0, Edge.SMALL}, {0, 3, 1, Edge.BIG, 0}, {0, 3, 1, Edge.SMALL, 0}};
        for (int[] w : wrong) {
            String call = "hide(" + w[0] + ", " + w[1] + ", " + w[2] + ", " + w[3] + ", " + w[4] + ")";
            Edge.everywhere(call, t -> t.hide(w[0], w[1], w[2], w[3], w[4]), NONE);
        }
        Edge.still(BestPair::new, "hide(0, 1, 0, 0, 0)", t -> t.hide(0, 1, 0, 0, 0), NONE);
        Edge.still(Edge::busy, "PAIR 3 of three", t -> t.hide(0, 7, 12, 0, 3), NONE);
        Edge.still(Edge::busy, "PERSON 3 of three", t -> t.hide(0, 7, 12, 3, 0), NONE);
        Edge.still(Edge::busy, "guests 8 of three", t -> t.hide(0, 8, 3, 3, 0), NONE);
        Edge.still(Edge::three, "only asked", t -> t.hide(3, 7, 12, 0, 0), 2);
    }

    private static void rises() {
        Edge.of("each guest (4 at most) tells a ROUND, 0 .. R (R 1 .. 3), in which it goes "
                + "(of one ROUND by numbers, lower first)", 16);
        int[] last = {5, 10, 15};
        for (int rounds = 1; rounds <= 3; rounds++) {
            int of = rounds;
            // With JOY and a PAIR of its own alone each waits for the last ROUND.
            Edge.still(() -> Check.people(Edge.APART), "R " + rounds, t -> t.rests(0, 3, of, 0), last[rounds - 1]);
            Edge.due("R " + rounds + ", one", Check.people(Edge.APART).rests(0, 3, rounds, NONE), 1);
        }
        Edge.due("four guests, the last ROUND", Check.people(Edge.APART).rests(0, 15, 3, 0), 255);
        Edge.due("four guests of six", Check.people(Edge.APART).rests(0, 0b110011, 2, 0), 0b10101010);
        Edge.due("one guest", Check.people(Edge.APART).rests(0, 32, 2, 0), 2);
        for (int rounds : new int[] {0, -1, 4, 5, Edge.BIG, Edge.SMALL}) {
            Edge.everywhere("R " + rounds, t -> t.rests(0, 3, rounds, NONE), NONE);
        }
        for (int guests : new int[] {31, 47, 62, 63}) {
            Edge.everywhere("guests " + guests, t -> t.rests(0, guests, 1, NONE), NONE);
        }
        // In one ROUND 0 goes first, and takes PAIR 1: with R 1 it would not wait.
        Edge.due("lower first", Check.people(WAITING).rests(0, 3, 1, 0), 0);

        Edge.of("it has JOY times the ROUND and WORTH of what it goes in (BARE 0).", 16);
        Edge.due("BARE, JOY 1: the last ROUND", Check.people("ps30;p").rests(0, 1, 3, 0), 3);
        Edge.due("BARE, JOY 0: all ROUNDS", Check.people("ps30j0;p").rests(0, 1, 3, NONE), 4);
        Edge.due("JOY 9: 99 now rather than 10 and 27", Check.people("pw10j9;pw99j0").rests(0, 3, 3, 0), 0);
        Edge.due("JOY 9: 36 now, or 10 and 27", Check.people("pw10j9;pw36j0").rests(0, 3, 3, 0), 12);
        Edge.due("12 at once, or 10 and 2 of JOY 1", Check.people(WAITING).rests(0, 3, 2, NONE), 2);
    }

    private static void rests() {
        Edge.of("RESTS: rows of ROUNDS (digits to the base 4, the lowest guest the highest) by which nobody would "
                + "have more by another ROUND alone.", 16);
        int[][] due = {{0}, {0, 8}, {12, 13}};
        for (int rounds = 1; rounds <= 3; rounds++) {
            int[] rows = due[rounds - 1];
            BestPair x = Check.people(WAITING);
            Edge.due("R " + rounds + ": how many", x.rests(0, 3, rounds, NONE), rows.length);
            for (int i = 0; i < rows.length; i++) {
                Edge.due("R " + rounds + ": " + i, x.rests(0, 3, rounds, i), rows[i]);
            }
            Edge.due("R " + rounds + ": no more", x.rests(0, 3, rounds, rows.length), NONE);
        }
        BestPair still = Check.people("pj0;pj0;pj0;pj0;p");
        int[] four = {0, 1, 4, 5};
        for (int i = 0; i < 4; i++) {
            Edge.due("as much is not more: " + i, still.rests(0, 3, 1, i), four[i]);
        }
        Edge.due("all 256", still.rests(0, 15, 3, NONE), 256);
        Edge.due("the first", still.rests(0, 15, 3, 0), 0);
        Edge.due("the last", still.rests(0, 15, 3, 255), 255);
        Edge.due("the last of R 2", still.rests(0, 15, 2, 80), 170);
        Edge.due("no 82nd of R 2", still.rests(0, 15, 2, 81), NONE);

        Edge.of("RESTS: how many (i NONE), the i-th. NONE: no such ones (five guests, too).", 16);
        Edge.still(() -> Check.people("pj0;pj0;pj0;pj0"), "no 257th", t -> t.rests(0, 15, 3, 256), NONE);
        Edge.due("none at all: how many", Check.people(RESTLESS).rests(0, 3, 3, NONE), 0);
        Edge.still(() -> Check.people(RESTLESS), "none at all: the first", t -> t.rests(0, 3, 3, 0), NONE);
        int[][] wrong = {{-1, 3, 1, -1}, {4, 3, 1, -1}, {0, 0, 1, -1}, {0, 64, 1, -1}, {0, -1, 1, -1}, {0, 3, 0, -1},
            {0, 3, 4, -1}, {0, 3, 1, -2}, {0, 3, 1, 16}, {0, 3, 3, 256}, {0, 3, 1, Edge.BIG}, {0, 3, 1, Edge.SMALL},
            {0, 31, 1, -1}, {0, 31, 1, 0}, {0, 62, 3, -1}, {0, 63, 3, -1}};
        for (int[] w : wrong) {
            String call = "rests(" + w[0] + ", " + w[1] + ", " + w[2] + ", " + w[3] + ")";
            Edge.everywhere(call, t -> t.rests(w[0], w[1], w[2], w[3]), NONE);
        }
        Edge.still(BestPair::new, "rests(0, 1, 1, NONE)", t -> t.rests(0, 1, 1, NONE), NONE);
        Edge.still(Edge::busy, "guests 8 of three", t -> t.rests(0, 8, 1, NONE), NONE);
        Edge.still(Edge::three, "only asked", t -> t.rests(3, 1, 3, 0), 3);
    }

    private static void comes() {
        Edge.of("its own PAIR as it is (0), or the old one (1: the size of its own, WORTH o; its own stays at home)", 17);
        Edge.due("alone all is alike", Check.people("pw50o10;p").quiet(1, NONE), 2);
        Edge.due("the old one has the size of its own: both BARE, 12 stays rather than 10",
                Check.people("ps30w12o10;p").quiet(1, 0), 1);
        Edge.due("10 stays rather than 9", Check.people("ps30w9o10;p").quiet(1, 0), 0);
        Edge.due("one only", Check.people("ps30w12o10;p").quiet(1, NONE), 1);
        Edge.due("10 or 10", Check.people("ps30w10o10;p").quiet(1, NONE), 2);
        Edge.due("0 and 99", Check.people("ps30w0o99;p").quiet(1, 0), 0);
        Edge.due("99 and 0", Check.people("ps30w99o0;p").quiet(1, 0), 1);

        Edge.of("they go by numbers; it has WORTH of what it goes in, and of what stayed at home (the old one by o, its "
                + "own by its WORTH now).", 17);
        // The lower one takes the other's 50 and left 50 at home; the higher one would not so.
        Edge.due("0 by its old one has 100: not quiet without it", Check.people("pw50o10;pw50o10").quiet(3, 0), 2);
        Edge.due("with a third one who wears none of these", Check.people("ps30w0o0;pw50o10;pw50o10").quiet(6, 0), 4);
        BestPair x = Check.people("ps30w12o10;pw0m2");
        Edge.due("12 stays rather than 10", x.quiet(1, NONE), 1);
        x.evening(0, 3, 1);
        Edge.due("PERSON 1 has PAIR 0", x.person(1, 5), 0);
        Edge.due("10 now, and 10", x.quiet(1, NONE), 2);
        x.evening(0, 2, 1);
        Edge.due("8 now, 10 stays", x.quiet(1, 0), 0);
        Edge.due("8 now, one only", x.quiet(1, NONE), 1);

        Edge.of("(They take PAIRS as in 2; in COME only the guests' own PAIRS, or old ones under their numbers, stand at "
                + "the door.)", 16, 17);
        BestPair y = Edge.three();
        y.evening(0, 7, 12);
        Edge.due("PAIR 0 stands in HOUSE 0, 1 is with 0: alone each has its own", y.quiet(2, NONE), 2);
        y.rule(1, Check.rule(y, "y:n=1&o=1?1"));
        Edge.due("its own alone stands there", y.quiet(2, NONE), 2);
        y.rule(0, Check.rule(y, "y:n=2&p=0?1"));
        Edge.due("of two guests two stand there: each goes in its own", y.quiet(3, NONE), 4);
    }

    private static void quiet() {
        Edge.of("QUIET: sets of those who come in the old ones (bits by PERSONS) by which nobody would have more by "
                + "the other choice alone.", 17);
        BestPair x = Check.people("pw50o10;pw50o10");
        // None: 0 would have 50 and 50 by its old one. 0 alone: 1 would have 10 and 50 instead of 10 and 10.
        Edge.due("how many", x.quiet(3, NONE), 2);
        Edge.due("1 in the old one", x.quiet(3, 0), 2);
        Edge.due("both", x.quiet(3, 1), 3);
        Edge.due("no more", x.quiet(3, 2), NONE);
        BestPair six = Check.people(Edge.APART);
        Edge.due("as much is not more: all 64", six.quiet(63, NONE), 64);
        for (int i = 0; i < 64; i++) {
            Edge.due("rising " + i, six.quiet(63, i), i);
        }
        Edge.due("no 65th", six.quiet(63, 64), NONE);
        Edge.due("guests 1, 3, 5: the last", six.quiet(42, 7), 42);
        Edge.due("guests 1, 3, 5: no ninth", six.quiet(42, 8), NONE);
        Edge.due("guests 1, 3, 5: the second", six.quiet(42, 1), 2);

        Edge.of("QUIET: how many (i NONE), the i-th. NONE: no such ones.", 17);
        Edge.still(() -> Check.people(Edge.APART), "no 65th", t -> t.quiet(63, 64), NONE);
        int[][] wrong = {{0, -1}, {0, 0}, {64, -1}, {-1, -1}, {127, -1}, {Edge.BIG, -1}, {Edge.SMALL, -1}, {3, -2},
            {3, 4}, {1, 2}, {3, Edge.BIG}, {3, Edge.SMALL}};
        for (int[] w : wrong) {
            Edge.everywhere("quiet(" + w[0] + ", " + w[1] + ")", t -> t.quiet(w[0], w[1]), NONE);
        }
        Edge.still(BestPair::new, "quiet(1, NONE)", t -> t.quiet(1, NONE), NONE);
        Edge.still(Edge::busy, "guests 8 of three", t -> t.quiet(8, NONE), NONE);
        Edge.still(Edge::three, "only asked", t -> t.quiet(2, 1), 2);
    }
}
