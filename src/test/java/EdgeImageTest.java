/** The sentences of the document that name a boundary of promises 25 to 34, and of its part 5. */
public final class EdgeImageTest {
    private static final int NONE = BestPair.NONE;
    private static final int HIDDEN = BestPair.HIDDEN;
    /** Each would rather have the PAIRS of those behind it. */
    private static final String RISING = "pw1;pw2;pw3;pw4;pw5;pw6";
    private static final String FALLING = "pw6;pw5;pw4;pw3;pw2;pw1";

    public static void main(String[] args) {
        all();
        Check.end("EdgeImageTest");
    }

    static void all() {
        left();
        swap();
        dream();
        dreamOfSeveral();
        bring();
        bringStays();
        steady();
        lost();
        envy();
        image();
        back();
        counts();
        refused();
    }

    private static void left() {
        Edge.of("LEFT of some guests: PAIRS (bits) that stay in the HOUSE by all ORDERS (0), by one at least (1).", 25);
        Edge.still(Edge::three, "by all", t -> t.left(3, 7, 0), 0);
        Edge.still(Edge::three, "by 012, 021, 201 PAIR 0", t -> t.left(3, 7, 1), 1);
        BestPair once = Check.people("ps40g1f40w60;ps41g0f41w50;ps41g0f41w50");
        Edge.due("by none", once.left(0, 7, 1), 0);
        BestPair first = Check.people("ps40g1f40w50;ps41g0f41w60");
        Edge.due("by the first of two only", first.left(0, 3, 1), 1);
        Edge.due("not by both", first.left(0, 3, 0), 0);
        BestPair last = Check.people("ps41g0f41w60;ps40g1f40w50");
        Edge.due("by the last of two only", last.left(0, 3, 1), 2);
        Edge.due("not by both", last.left(0, 3, 0), 0);
        BestPair bare = Check.people("ps30;ps30;ps30;ps30;ps30;ps30");
        Edge.due("all six by all", bare.left(0, 63, 0), 63);
        Edge.due("all six by one", bare.left(0, 63, 1), 63);
        Edge.due("those of the guests alone", bare.left(0, 32, 0), 32);
        bare.evening(2, 1, 0);
        Edge.due("the HOUSE's, too", bare.left(2, 32, 0), 33);
        Edge.due("not another HOUSE's", bare.left(3, 32, 1), 32);

        Edge.of("LEFT (what 0, 1), as bits. NONE: no such ones.", 25);
        int[][] wrong = {{-1, 3, 0}, {4, 3, 0}, {0, 0, 0}, {0, 64, 0}, {0, -1, 0}, {0, 3, -1}, {0, 3, 2}, {0, 3, Edge.BIG},
            {0, 3, Edge.SMALL}, {Edge.BIG, 3, 0}, {0, Edge.SMALL, 0}};
        for (int[] w : wrong) {
            Edge.everywhere("left(" + w[0] + ", " + w[1] + ", " + w[2] + ")", t -> t.left(w[0], w[1], w[2]), NONE);
        }
        Edge.still(BestPair::new, "left(0, 1, 0)", t -> t.left(0, 1, 0), NONE);
        Edge.still(Edge::busy, "guests 8 of three", t -> t.left(0, 8, 0), NONE);
    }

    private static void swap() {
        Edge.of("SWAP: two guests change their places in an ORDER: how much more WORTH both together go in then.", 26);
        Edge.still(Edge::three, "120 for 90", t -> t.swap(3, 7, 12, 0, 1), 30);
        Edge.still(Edge::three, "the other way round", t -> t.swap(0, 7, 12, 1, 0), 30);
        Edge.still(Edge::three, "less", t -> t.swap(0, 7, 102, 0, 1), -30);
        Edge.still(Edge::three, "the first and the last: 70 for 70", t -> t.swap(0, 7, 12, 0, 2), 0);
        Edge.still(Edge::three, "one between: 120 for 70", t -> t.swap(0, 7, 21, 0, 1), 50);
        BestPair much = Check.people("ps40g1w99f41;ps41g0w98f40");
        Edge.due("98 for BARE", much.swap(0, 3, 1, 0, 1), 98);
        Edge.due("BARE for 98", much.swap(0, 3, 10, 0, 1), -98);
        Edge.due("the last two of six", Check.people(Edge.APART).swap(0, 63, 12345, 4, 5), 0);

        Edge.of("SWAP. HIDDEN: no such ones, alike, no guests.", 26);
        int[][] wrong = {{-1, 3, 1, 0, 1}, {4, 3, 1, 0, 1}, {0, 0, 0, 0, 1}, {0, 64, 6, 6, 0}, {0, -1, 1, 0, 1},
            {0, 3, 11, 0, 1}, {0, 3, 102, 0, 1}, {0, 3, -1, 0, 1}, {0, 3, 0, 0, 1}, {0, 3, 1, 0, 0}, {0, 3, 1, 1, 1},
            {0, 3, 1, -1, 1}, {0, 3, 1, 0, -1}, {0, 3, 1, -1, -1}, {0, 3, 1, 6, 0}, {0, 3, 1, 0, 6}, {0, 3, 1, 32, 33},
            {0, 3, 1, 0, 2}, {0, 3, 1, 2, 0}, {0, 1, 0, 0, 1}, {0, 3, 1, 0, Edge.BIG}, {0, 3, 1, Edge.SMALL, 1}};
        for (int[] w : wrong) {
            String call = "swap(" + w[0] + ", " + w[1] + ", " + w[2] + ", " + w[3] + ", " + w[4] + ")";
            Edge.everywhere(call, t -> t.swap(w[0], w[1], w[2], w[3], w[4]), HIDDEN);
        }
        Edge.still(BestPair::new, "swap(0, 3, 1, 0, 1)", t -> t.swap(0, 3, 1, 0, 1), HIDDEN);
        Edge.still(Edge::busy, "PERSON 3 of three", t -> t.swap(0, 7, 12, 0, 3), HIDDEN);
        Edge.still(Edge::busy, "guests 9 of three", t -> t.swap(0, 9, 3, 0, 3), HIDDEN);
    }

    private static void dream() {
        Edge.of("DREAM of some guests in a HOUSE: the greatest WORTH together in which they could go, each in a PAIR at "
                + "the door that FITS or BARE, however given (RULES left out)", 27);
        Edge.still(Edge::three, "each its own", t -> t.dream(3, 7, NONE), 140);
        Edge.due("one alone", Edge.three().dream(0, 4, NONE), 20);
        Edge.due("none FITS", Check.people("ps30;ps30").dream(0, 3, NONE), 0);
        Edge.due("six of 99", Check.people("pw99;pw99;pw99;pw99;pw99;pw99").dream(0, 63, NONE), 594);
        BestPair x = Edge.three();
        for (int person = 0; person < 3; person++) {
            x.rule(person, Check.rule(x, "y:0"));
        }
        Edge.due("RULES left out", x.dream(0, 7, NONE), 140);
        Edge.due("BARE by their RULES", x.host(0, 7, 0, 1), 3);
        BestPair size = Check.people("ps40g1w1f41;ps41g0f39;ps38g0f42w99");
        Edge.due("only what FITS: PAIR 0 once", size.dream(0, 7, NONE), 1);
        Edge.due("BARE, and the others in 50", Check.people("ps30w49;p;p").dream(0, 7, NONE), 100);
        BestPair again = Edge.three();
        int[] due = {50, 70, 120, 20, 70, 90, 140};
        for (int guests = 7; guests > 0; guests--) {
            Edge.due("asked again, guests " + guests, again.dream(0, guests, NONE), due[guests - 1]);
        }

        Edge.of("DREAM: the WORTH (person NONE), the PAIR of one (NONE: BARE). HIDDEN: no such ones, it is no guest.", 27);
        int[][] wrong = {{-1, 3, -1}, {4, 3, -1}, {0, 0, -1}, {0, 64, -1}, {0, -1, -1}, {0, 3, -2}, {0, 3, 6}, {0, 3, 32},
            {0, 3, 2}, {0, 2, 0}, {0, 1, 1}, {0, 3, Edge.BIG}, {0, 3, Edge.SMALL}, {0, 64, 6}};
        for (int[] w : wrong) {
            Edge.everywhere("dream(" + w[0] + ", " + w[1] + ", " + w[2] + ")", t -> t.dream(w[0], w[1], w[2]), HIDDEN);
        }
        Edge.still(BestPair::new, "dream(0, 1, NONE)", t -> t.dream(0, 1, NONE), HIDDEN);
        Edge.still(BestPair::new, "dream(0, 1, 0)", t -> t.dream(0, 1, 0), HIDDEN);
        Edge.still(Edge::busy, "PERSON 3 of three", t -> t.dream(0, 7, 3), HIDDEN);
        Edge.still(Edge::busy, "guests 8 of three", t -> t.dream(0, 8, NONE), HIDDEN);
    }

    /** Which PAIRS guests have in a DREAM. */
    private static void dreams(String people, int guests, int... pairs) {
        BestPair x = Check.people(people);
        for (int person = 0; person < pairs.length; person++) {
            if ((guests >> person & 1) == 1) {
                Edge.due("PAIR of " + person + " in " + people, x.dream(0, guests, person), pairs[person]);
            }
        }
    }

    private static void dreamOfSeveral() {
        Edge.of("(of several ways the one in which the lowest guest has the lowest PAIR, BARE behind all, then the next)",
                27);
        dreams(Edge.ALIKE, 63, 0, 1, 2, 3, 4, 5);
        dreams(FALLING, 63, 0, 1, 2, 3, 4, 5);
        dreams(RISING, 63, 0, 1, 2, 3, 4, 5);
        dreams("pw0;pw0", 3, 0, 1);
        dreams("pw0;p", 1, 0);
        dreams("pw9g0;pg0f41", 3, 0, NONE);
        dreams("ps41g0w5;pf41g1w5", 3, 1, 0);
        dreams("pf41w5;pg0w5f41;pw5g0", 7, 0, 2, NONE);
        dreams("ps30;p", 3, NONE, 0);
        dreams("ps30;p;p", 7, NONE, 0, 1);
        dreams("ps30w49;p;p", 7, NONE, 1, 2);
        dreams("p;p;p", 6, 0, 1, 2);
        Edge.due("the fifth PAIR alone FITS both: the lower guest",
                Check.people("ps45g0;ps45g0;ps30;ps30;ps30;ps45f45").dream(0, 35, 0), 5);
        Edge.due("the other is BARE",
                Check.people("ps45g0;ps45g0;ps30;ps30;ps30;ps45f45").dream(0, 35, 5), NONE);
    }

    private static void bring() {
        Edge.of("BRING: the fewest EVENINGS in HOUSE 0 (any guests, any ORDERS; 4 PEOPLE at most, WORTH not worn down, "
                + "PAIRS of other HOUSES stay), from as it is, behind which a told PERSON has a told PAIR.", 28);
        Edge.still(Edge::three, "it has it: none", t -> t.bring(2, 2), 0);
        Edge.still(Edge::three, "one", t -> t.bring(0, 1), 1);
        Edge.due("two", Check.people("ps40g2w90f43;ps40g1w20f41;ps40g1w20f40").bring(2, 1), 2);
        Edge.due("only by the last ORDER of both", Check.people("pw60;pw50").bring(1, 0), 1);
        Edge.due("four", Check.people("pw4;pw3;pw2;pw1").bring(3, 0), 1);
        Edge.due("two of four", Check.people("p;p").bring(1, 1), 0);
        Edge.still(() -> Check.people("p;p;p;p;p"), "five, though it has it", t -> t.bring(0, 0), NONE);
        Edge.still(() -> Check.people(Edge.ALIKE), "six", t -> t.bring(0, 0), NONE);
        Edge.due("worn down it would: never", Check.people("pw10m9;ps30w9f40").bring(0, 1), NONE);

        Edge.of("BRING. NONE: never, no such ones, more than 4 PEOPLE.", 28);
        Edge.still(Edge::three, "never: it FITS not", t -> t.bring(2, 0), NONE);
        Edge.still(Edge::three, "never: there is a better one ever", t -> t.bring(0, 2), NONE);
        int[][] wrong = {{-1, 0}, {6, 0}, {4, 0}, {0, -1}, {0, -2}, {0, 6}, {0, 4}, {Edge.BIG, 0}, {Edge.SMALL, 0},
            {0, Edge.BIG}, {0, Edge.SMALL}, {-1, -1}};
        for (int[] w : wrong) {
            Edge.everywhere("bring(" + w[0] + ", " + w[1] + ")", t -> t.bring(w[0], w[1]), NONE);
        }
        Edge.still(BestPair::new, "bring(0, 0)", t -> t.bring(0, 0), NONE);
        Edge.still(Edge::busy, "PERSON 3 of three", t -> t.bring(3, 0), NONE);
        Edge.still(Edge::busy, "PAIR 3 of three", t -> t.bring(0, 3), NONE);
        Edge.still(Edge::full, "six PEOPLE", t -> t.bring(0, 0), NONE);
    }

    private static void bringStays() {
        Edge.of("(any guests, any ORDERS; 4 PEOPLE at most, WORTH not worn down, PAIRS of other HOUSES stay)", 28);
        for (int house = 0; house < 4; house++) {
            BestPair x = Edge.three();
            x.evening(house, 7, 12);
            Edge.due("PAIR 0 in HOUSE " + house, x.bring(0, 0), house == 0 ? 1 : NONE);
            Edge.due("PAIR 2 is with 1", x.bring(2, 2), 1);
            Edge.due("PAIR 1 is with 0 already", x.bring(0, 1), 0);
        }
        BestPair y = Check.people("ps30;p");
        y.evening(0, 3, 1);
        Edge.due("from as it is: it was its own at first", y.bring(0, 0), NONE);
        BestPair again = Edge.three();
        int[][] due = {{0, 1, NONE}, {NONE, 0, 1}, {NONE, NONE, 0}};
        for (int k = 0; k < 27; k++) {
            int person = k * 7 % 9 / 3;
            int pair = k * 7 % 3;
            Edge.due("asked again: bring(" + person + ", " + pair + ")", again.bring(person, pair), due[person][pair]);
        }
        again.evening(0, 7, 12);
        Edge.due("behind an EVENING: PAIR 0 from the HOUSE", again.bring(0, 0), 1);
        Edge.due("behind an EVENING: it has it", again.bring(1, 2), 0);
        Edge.due("behind an EVENING: its own again", again.bring(2, 2), 1);
        // 0 takes 2's PAIR home, then 2 comes without 0 to where PAIR 1 stands.
        Edge.due("two, once without 0", Check.people("pw7;ps41;p").bring(2, 1), 2);
        // 1 wears none; 2 would rather have 50 than its own 6, and never leaves it again.
        BestPair left = Check.people("p;ps42;pw6");
        bringAll(left, new int[] {0, 1, 1, NONE, 0, NONE, 1, 1, 0});
        left.evening(0, 7, 102);
        bringAll(left, new int[] {0, 1, NONE, NONE, NONE, NONE, 1, 0, NONE});
        // 1 takes PAIR 0, then nothing more; 0 takes what stands alone.
        BestPair alone = Check.people("pw60;pw50");
        alone.rule(0, Check.rule(alone, "y:0"));
        alone.evening(0, 3, 10);
        alone.rule(1, 0);
        alone.rule(0, Check.rule(alone, "y:n=1?1"));
        Edge.due("any guests: 0 alone", alone.bring(0, 1), 1);
        Edge.due("never alone with PAIR 0", alone.bring(0, 0), NONE);
    }

    private static void bringAll(BestPair x, int[] due) {
        for (int k = 0; k < 9; k++) {
            Edge.due("bring(" + k / 3 + ", " + k % 3 + ")", x.bring(k / 3, k % 3), due[k]);
        }
    }

    private static void steady() {
        Edge.of("STEADY: whether no EVENING of all PEOPLE in HOUSE 0 (4 at most), in whatever ORDER, would change who has "
                + "what.", 29);
        Edge.still(Edge::three, "012 would", t -> t.steady(), 0);
        Edge.still(() -> Check.people("p;p"), "two", t -> t.steady(), 1);
        Edge.still(() -> Check.people("p;p;p;p"), "four", t -> t.steady(), 1);
        Edge.due("only the last ORDER would", Check.people("pw60;pw50").steady(), 0);
        Edge.due("only the first ORDER would", Check.people("pw50;pw60").steady(), 0);
        Edge.due("one of four would be BARE", Check.people("p;p;p;ps30").steady(), 0);
        for (int house = 0; house < 4; house++) {
            BestPair x = Check.people("ps30;p");
            x.evening(house, 1, 0);
            // The PAIR is as good as its own, so that nobody would take it from HOUSE 0, either.
            Edge.due("BARE already, in HOUSE " + house, x.steady(), 1);
            BestPair y = Check.people("ps30w51;p");
            y.evening(house, 1, 0);
            Edge.due("a better one in HOUSE " + house, y.steady(), house == 0 ? 0 : 1);
            BestPair z = Check.people("p;ps30w51");
            z.evening(house, 2, 1);
            Edge.due("one for the first in HOUSE " + house, z.steady(), house == 0 ? 0 : 1);
        }

        Edge.of("STEADY (1, 0). NONE: no PEOPLE, more than 4.", 29);
        Edge.still(BestPair::new, "steady()", t -> t.steady(), NONE);
        Edge.still(() -> Check.people("p;p;p;p;p"), "five", t -> t.steady(), NONE);
        Edge.still(Edge::full, "six", t -> t.steady(), NONE);
        Edge.still(() -> Check.people(Edge.APART), "six", t -> t.steady(), NONE);
    }

    private static void lost() {
        Edge.of("LOST: how much less WORTH all PAIRS have together than at first.", 30);
        Edge.still(Edge::three, "nothing yet", t -> t.lost(), 0);
        BestPair x = Check.people("pw99m9;ps30w99");
        for (int k = 1; k <= 12; k++) {
            x.evening(0, 3, 1);
        }
        Edge.due("99 and 99 by nines, never both at once", x.lost(), 12 * 9);
        for (int k = 1; k <= 20; k++) {
            x.evening(0, 3, 1);
        }
        Edge.due("no more than they had", x.lost(), 198);
        Edge.due("0 each", x.pair(0, 1) + x.pair(1, 1), 0);

        Edge.of("LOST. NONE: no PEOPLE.", 30);
        Edge.still(BestPair::new, "lost()", t -> t.lost(), NONE);
        Edge.still(() -> Check.people("pw0;pw0"), "no WORTH", t -> t.lost(), 0);
    }

    private static void envy() {
        Edge.of("ENVY: pairs of PEOPLE of whom the first would have a greater WORTH in the PAIR of the other one, which "
                + "FITS it, than in its own (BARE 0): how many, the i-th (10 times the first and the other, rising).", 31);
        int at = 0;
        for (int first = 0; first < 6; first++) {
            for (int other = first + 1; other < 6; other++) {
                Edge.due("rising, " + at, Check.people(RISING).envy(at), 10 * first + other);
                at++;
            }
        }
        Edge.due("how many", Check.people(RISING).envy(NONE), 15);
        Edge.due("the first", Check.people(FALLING).envy(0), 10);
        Edge.due("the last", Check.people(FALLING).envy(14), 54);
        Edge.due("as much is not greater", Check.people("pw5;pw5").envy(NONE), 0);
        Edge.due("greater by 1", Check.people("pw5;pw6").envy(0), 1);
        Edge.due("it FITS not", Check.people("pw5;pw6f42").envy(NONE), 0);
        Edge.due("it FITS just", Check.people("pw5;pw6f41").envy(NONE), 1);
        Edge.due("it is too small by 1", Check.people("pw5;pw6f39").envy(NONE), 0);
        for (int worth = 0; worth <= 1; worth++) {
            BestPair x = Check.people("ps40f30w9;pm0w" + worth);
            x.evening(0, 1, 0);
            Edge.due("BARE, and WORTH " + worth, x.envy(NONE), worth);
        }

        Edge.of("ENVY: how many (i NONE), the i-th. NONE: no such one, no PEOPLE.", 31);
        Edge.still(() -> Check.people(RISING), "i 14 of 15", t -> t.envy(14), 45);
        Edge.still(() -> Check.people(RISING), "i 15 of 15", t -> t.envy(15), NONE);
        Edge.still(() -> Check.people("p;p"), "i 0 of none", t -> t.envy(0), NONE);
        Edge.still(() -> Check.people("p;p"), "how many of none", t -> t.envy(NONE), 0);
        for (int i : new int[] {-2, 30, 36, Edge.BIG, Edge.SMALL}) {
            Edge.everywhere("envy(" + i + ")", t -> t.envy(i), NONE);
        }
        Edge.still(BestPair::new, "envy(NONE)", t -> t.envy(NONE), NONE);
        Edge.still(BestPair::new, "envy(0)", t -> t.envy(0), NONE);
    }

    /** What was, when an IMAGE was taken, is so again, whatever came between. */
    private static void imageOf(String name, BestPair x, BestPair same) {
        int evenings = x.count(3);
        Edge.due(name + ": IMAGE", x.image(), evenings);
        x.year(35, 11);
        x.sight(0, 13, 50);
        Edge.due(name + ": BACK", x.back(), evenings);
        x.evening(0, 3, 10);
        x.evening(1, 3, 1);
        x.sight(0, 12, 20);
        Edge.due(name + ": BACK again", x.back(), evenings);
        Edge.due(name + ": as it was", Edge.view(x, 0).equals(Edge.view(same, 0)), true);
    }

    private static void image() {
        Edge.of("An IMAGE keeps who has what, HOUSES, WORTH of PAIRS, the DIARY, SIGHTS; BACK: they are so again.", 32, 33);
        imageOf("at first", Edge.three(), Edge.three());
        imageOf("in the midst", Edge.busy(), Edge.busy());
        imageOf("when all is full", Edge.full(), Edge.full());
        BestPair x = Edge.busy();
        x.image();
        x.rule(0, 0);
        Check.rule(x, "y:w");
        x.rule(1, 2);
        Check.tape(x, "p");
        x.back();
        Edge.due("RULES are not of it", x.person(1, 6), 2);
        Edge.due("a RULE more", x.count(1), 3);
        Edge.due("the TAPE is not of it", x.count(2), 1);

        Edge.of("An IMAGE (instead of the one ahead): EVENINGS in the DIARY. NONE: no PEOPLE.", 32);
        Edge.still(BestPair::new, "image()", t -> t.image(), NONE);
        Edge.due("no EVENING", Edge.three().image(), 0);
        Edge.due("three EVENINGS", Edge.busy().image(), 3);
        Edge.due("thirty EVENINGS", Edge.full().image(), 30);
        BestPair y = Edge.busy();
        Edge.due("the one ahead", y.back(), 1);
        y.evening(3, 7, 210);
        Edge.due("instead of it", y.image(), 2);
        y.evening(3, 7, 12);
        Edge.due("the new one", y.back(), 2);
        Edge.due("the new one again", y.back(), 2);
    }

    private static void back() {
        Edge.of("BACK: EVENINGS in the DIARY. NONE: no IMAGE of these PEOPLE.", 33);
        Edge.still(BestPair::new, "no PEOPLE", t -> t.back(), NONE);
        Edge.still(Edge::three, "no IMAGE", t -> t.back(), NONE);
        Edge.still(EdgeImageTest::others, "others", t -> t.back(), NONE);
        Edge.still(EdgeImageTest::sameText, "the same TEXT again", t -> t.back(), NONE);
        BestPair x = Edge.busy();
        Check.tape(x, "p;p;");
        x.text(0);
        Edge.due("a TEXT with a FAULT: still these PEOPLE", x.back(), 1);
        BestPair y = others();
        Edge.due("an IMAGE of the others", y.image(), 1);
        y.evening(0, 3, 1);
        Edge.due("BACK to it", y.back(), 1);
        Edge.due("one in the DIARY", y.count(3), 1);
    }

    private static BestPair others() {
        BestPair x = Edge.busy();
        x.text(0);
        x.evening(0, 3, 1);
        return x;
    }

    private static BestPair sameText() {
        BestPair x = Edge.busy();
        Check.tape(x, Edge.THREE);
        x.text(0);
        return x;
    }

    private static void counts() {
        Edge.of("0 PEOPLE, 1 RULES, 2 bytes of the TAPE, 3 EVENINGS in the DIARY, 4 SIGHTS, 5 PAIRS nobody has. "
                + "HIDDEN for others.", 34);
        int[] least = {0, 0, 0, 0, 0, 0};
        int[] most = {6, 4, 160, 30, 20};
        for (int what = 0; what < 6; what++) {
            int of = what;
            Edge.still(BestPair::new, "count(" + what + ")", t -> t.count(of), least[what]);
            if (what < 5) {
                Edge.still(Edge::full, "count(" + what + ")", t -> t.count(of), most[what]);
            }
        }
        BestPair x = Check.people("ps30;ps30;ps30;ps30;ps30;ps30");
        for (int person = 0; person < 6; person++) {
            Edge.due("PAIRS nobody has", x.count(5), person);
            x.evening(person % 4, 1 << person, person);
        }
        Edge.due("all six", x.count(5), 6);
        for (int what : new int[] {-1, 6, 7, HIDDEN, Edge.BIG, Edge.SMALL}) {
            Edge.everywhere("count(" + what + ")", t -> t.count(what), HIDDEN);
        }
    }

    private static void refused() {
        Edge.of("What is refused answers as told and changes nothing.", 2, 3, 5, 9, 10, 18, 22, 32, 33);
        Edge.still(Edge::full, "feed", t -> t.feed(0x70, 0, 0, 0, 0), NONE);
        Edge.still(Edge::full, "end", t -> t.end(161) ? 1 : 0, 0);
        Edge.still(Edge::full, "text", t -> t.text(1), NONE);
        Edge.still(Edge::full, "rule", t -> t.rule(0, 4) ? 1 : 0, 0);
        Edge.still(Edge::full, "evening", t -> t.evening(0, 63, 12344), NONE);
        Edge.still(Edge::full, "year", t -> t.year(61, 1), NONE);
        Edge.still(Edge::full, "sight", t -> t.sight(0, 0, 40), NONE);
        Edge.still(BestPair::new, "image", t -> t.image(), NONE);
        Edge.still(Edge::three, "back", t -> t.back(), NONE);
        // One refused call behind another, of all sorts.
        Edge.still(Edge::busy, "many", t -> t.feed(-1, -1, -1, -1, -1) + t.feed(-1, -1, -1, -1, -1) > 0 && t.end(17)
                && !t.end(18) && t.text(1) + t.text(7) + t.evening(4, 7, 12) + t.year(0, 1) + t.sight(3, 0, 40) == -5
                && !t.rule(3, 0) ? 1 : 0, 1);
    }
}
