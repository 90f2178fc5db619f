/** The sentences of the document that name a boundary of promises 6 to 10, and of its part 2. */
public final class EdgeEveningTest {
    private static final int NONE = BestPair.NONE;

    public static void main(String[] args) {
        all();
        Check.end("EdgeEveningTest");
    }

    static void all() {
        persons();
        pairs();
        fits();
        rulesOfPersons();
        houses();
        guests();
        doors();
        orders();
        choices();
        barePeople();
        wornDown();
        choicesByRule();
        letters();
        doorNumbers();
        diary();
        refusedEvenings();
    }

    private static void persons() {
        Edge.of("NoSuchElementException: no such ones.", 6);
        for (int wrong : new int[] {-1, 6, 7, Edge.BIG, Edge.SMALL}) {
            Edge.everywhere("person(" + wrong + ", 0) throws", t -> Edge.throwing(t, wrong, 0), 1);
        }
        for (int wrong : new int[] {-1, 7, 8, Edge.BIG, Edge.SMALL}) {
            Edge.everywhere("person(0, " + wrong + ") throws", t -> Edge.throwing(t, 0, wrong), 1);
        }
        Edge.still(BestPair::new, "person(0, 0) throws", t -> Edge.throwing(t, 0, 0), 1);
        Edge.still(Edge::busy, "person(3, 0) of three throws", t -> Edge.throwing(t, 3, 0), 1);
        Edge.still(Edge::busy, "person(2, 6), the last", t -> t.person(2, 6), NONE);
        Edge.still(Edge::busy, "person(0, 0), the first", t -> t.person(0, 0), 40);
        Edge.still(Edge::full, "person(5, 6), the last", t -> t.person(5, 6), 0);

        Edge.of("Of a PERSON: 0 SIZE, 1 GIVE, 2 MILES, 3 JOY, 4 WORTH of its old pair, 5 its PAIR now (NONE: BARE), "
                + "6 its RULE (NONE).", 6);
        BestPair x = Edge.three();
        int[] told = {40, 2, 3, 2, 10, 0, NONE};
        for (int what = 0; what < 7; what++) {
            Edge.due("person(0, " + what + ")", x.person(0, what), told[what]);
        }
        Edge.due("PAIR at first", x.person(2, 5), 2);
        x.evening(0, 7, 12);
        Edge.due("BARE", x.person(2, 5), NONE);
        Edge.due("no RULE", x.person(2, 6), NONE);
        Check.rule(x, "y:1");
        x.rule(2, 0);
        Edge.due("RULE 0", x.person(2, 6), 0);
        x.rule(2, NONE);
        Edge.due("none again", x.person(2, 6), NONE);
    }

    private static void pairs() {
        Edge.of("NONE: no such ones.", 7);
        for (int wrong : new int[] {-1, 6, 10, Edge.BIG, Edge.SMALL}) {
            Edge.everywhere("pair(" + wrong + ", 0)", t -> t.pair(wrong, 0), NONE);
            Edge.everywhere("pair(" + wrong + ", 2)", t -> t.pair(wrong, 2), NONE);
        }
        for (int wrong : new int[] {-1, 3, Edge.BIG, Edge.SMALL}) {
            Edge.everywhere("pair(0, " + wrong + ")", t -> t.pair(0, wrong), NONE);
        }
        Edge.still(BestPair::new, "pair(0, 0)", t -> t.pair(0, 0), NONE);
        Edge.still(Edge::busy, "pair(3, 0) of three", t -> t.pair(3, 0), NONE);
        Edge.still(Edge::busy, "pair(2, 0), the last", t -> t.pair(2, 0), 42);
        Edge.still(Edge::full, "pair(5, 0), the last", t -> t.pair(5, 0), 49);

        Edge.of("PAIRS have the numbers of those who came in them.", 7);
        BestPair x = Edge.three();
        int[] worth = {50, 70, 20};
        for (int pair = 0; pair < 3; pair++) {
            Edge.due("size of " + pair, x.pair(pair, 0), 40 + pair);
            Edge.due("WORTH of " + pair, x.pair(pair, 1), worth[pair]);
        }

        Edge.of("Each PERSON has a PAIR (its own at first) or is BARE", 6, 7);
        for (int number = 0; number < 3; number++) {
            Edge.due("has " + number, x.person(number, 5), number);
            Edge.due("is with " + number, x.pair(number, 2), number);
        }

        Edge.of("0 size, 1 WORTH, 2 where it is (a PERSON, 10 and a HOUSE).", 7);
        x.evening(0, 7, 12);
        Edge.due("HOUSE 0", x.pair(0, 2), 10);
        Edge.due("PERSON 0", x.pair(1, 2), 0);
        BestPair y = Check.people("ps30;ps30;ps30;ps30;ps30;p");
        for (int house = 0; house < 4; house++) {
            y.evening(house, 1 << house, house);
            Edge.due("HOUSE " + house, y.pair(house, 2), 10 + house);
        }
        Edge.due("PERSON 5", y.pair(5, 2), 5);
    }

    private static void fits() {
        Edge.of("A PAIR FITS, if its size is SIZE .. SIZE and GIVE.", 8, 10);
        BestPair x = Check.people("ps40g2f39;ps40g0f40;ps41g9f42;ps50g9f43;ps20g0f20;ps30g1f50");
        int[] sizes = {39, 40, 42, 43, 20, 50};
        int[] size = {40, 40, 41, 50, 20, 30};
        int[] give = {2, 0, 9, 9, 0, 1};
        for (int person = 0; person < 6; person++) {
            for (int pair = 0; pair < 6; pair++) {
                boolean fit = sizes[pair] >= size[person] && sizes[pair] <= size[person] + give[person];
                Edge.due("fits(" + person + ", " + pair + ")", x.fits(person, pair), fit ? 1 : 0);
            }
        }
        for (int more = -1; more <= 4; more++) {
            BestPair y = Check.people("ps40g3;pf" + (40 + more));
            boolean fit = more >= 0 && more <= 3;
            Edge.due("40 and 3, size " + (40 + more), y.fits(0, 1), fit ? 1 : 0);
            Edge.due("it is taken, if it FITS", y.tried(0, 2, 1, 1), more == 0 || more == 1 ? 1 : NONE);
        }
        Edge.due("SIZE 50 and 9", Check.people("ps50g9;pf50").fits(0, 1), 1);
        Edge.due("41 and 9 is 50", Check.people("ps41g9;pf50").fits(0, 1), 1);
        Edge.due("40 and 9 is below 50", Check.people("ps40g9;pf50").fits(0, 1), 0);

        Edge.of("NONE: no such ones.", 8);
        for (int wrong : new int[] {-1, 6, Edge.BIG, Edge.SMALL}) {
            Edge.everywhere("fits(" + wrong + ", 0)", t -> t.fits(wrong, 0), NONE);
            Edge.everywhere("fits(0, " + wrong + ")", t -> t.fits(0, wrong), NONE);
        }
        Edge.still(BestPair::new, "fits(0, 0)", t -> t.fits(0, 0), NONE);
        Edge.still(Edge::busy, "fits(3, 0) of three", t -> t.fits(3, 0), NONE);
        Edge.still(Edge::busy, "fits(0, 3) of three", t -> t.fits(0, 3), NONE);
        Edge.still(Edge::busy, "fits(2, 2), the last", t -> t.fits(2, 2), 1);
        Edge.still(Edge::full, "fits(5, 5), the last", t -> t.fits(5, 5), 1);
    }

    private static void rulesOfPersons() {
        Edge.of("A RULE of a PERSON (NONE: none).", 9);
        BestPair x = Edge.full();
        Edge.due("the first", x.rule(0, 0), true);
        Edge.due("is 0", x.person(0, 6), 0);
        Edge.due("the last", x.rule(5, 3), true);
        Edge.due("is 3", x.person(5, 6), 3);
        Edge.due("none", x.rule(5, NONE), true);
        Edge.due("is none", x.person(5, 6), NONE);
        Edge.due("none, where none was", Edge.three().rule(0, NONE), true);

        Edge.of("False: no such ones.", 9);
        for (int wrong : new int[] {-1, 6, Edge.BIG, Edge.SMALL}) {
            Edge.everywhere("rule(" + wrong + ", NONE)", t -> t.rule(wrong, NONE) ? 1 : 0, 0);
            Edge.everywhere("rule(" + wrong + ", 0)", t -> t.rule(wrong, 0) ? 1 : 0, 0);
        }
        for (int wrong : new int[] {-2, 4, Edge.BIG, Edge.SMALL}) {
            Edge.everywhere("rule(0, " + wrong + ")", t -> t.rule(0, wrong) ? 1 : 0, 0);
        }
        Edge.still(BestPair::new, "rule(0, NONE)", t -> t.rule(0, NONE) ? 1 : 0, 0);
        Edge.still(Edge::busy, "rule(3, 0) of three", t -> t.rule(3, 0) ? 1 : 0, 0);
        Edge.still(Edge::busy, "rule(0, 2) of two", t -> t.rule(0, 2) ? 1 : 0, 0);
        Edge.still(Edge::busy, "rule(1, 2) of two", t -> t.rule(1, 2) ? 1 : 0, 0);
        Edge.still(Edge::three, "rule(0, 0) of none", t -> t.rule(0, 0) ? 1 : 0, 0);
        Edge.due("rule(0, 1) of two", Edge.busy().rule(0, 1), true);
        Edge.due("rule(2, 0) of three", Edge.busy().rule(2, 0), true);
    }

    private static void houses() {
        Edge.of("PAIRS that nobody has stand in a HOUSE (0 .. 3).", 7, 10);
        for (int house = 0; house < 4; house++) {
            BestPair x = Edge.three();
            Edge.due("HOUSE " + house, x.evening(house, 7, 12), 1);
            Edge.due("left there", x.pair(0, 2), 10 + house);
            Edge.due("nobody has it", x.count(5), 1);
        }
        for (int wrong : new int[] {-1, 4, 10, Edge.BIG, Edge.SMALL}) {
            Edge.still(Edge::three, "evening(" + wrong + ", 7, 12)", t -> t.evening(wrong, 7, 12), NONE);
        }
    }

    private static void guests() {
        Edge.of("guests (bits, not 0) come", 10);
        for (int guests = 1; guests <= 7; guests++) {
            Edge.due("guests " + guests, Edge.three().evening(0, guests, orderOf(guests)), 1);
        }
        for (int wrong : new int[] {0, 8, 9, 15, 16, 64, -1, -8, 1 << 30, Edge.BIG, Edge.SMALL}) {
            for (int order : new int[] {0, 12, orderOf(wrong & 63)}) {
                Edge.still(Edge::three, "guests " + wrong, t -> t.evening(0, wrong, order), NONE);
            }
        }
        Edge.due("all six", Check.people(Edge.ALIKE).evening(0, 63, 12345), 1);
        Edge.still(() -> Check.people(Edge.ALIKE), "a seventh", t -> t.evening(0, 64, 6), NONE);
        Edge.still(() -> Check.people(Edge.ALIKE), "seven", t -> t.evening(0, 127, 123456), NONE);
    }

    /** Guests by numbers. */
    private static int orderOf(int guests) {
        int order = 0;
        for (int person = 0; person < 6; person++) {
            order = (guests >> person & 1) == 1 ? order * 10 + person : order;
        }
        return order;
    }

    private static void doors() {
        Edge.of("at the door stand their PAIRS and those of the HOUSE.", 10);
        BestPair x = Edge.three();
        Edge.due("not PAIR 1, whose wearer is no guest", x.tried(1, 1, 0, 0), 0);
        x.evening(1, 7, 12);
        Edge.due("0 has 1 now, 1 has 2", x.person(1, 5), 2);
        Edge.due("2 is BARE and brings none", x.tried(0, 4, 2, 2), NONE);
        Edge.due("1 brings what it has, not its own", x.tried(0, 2, 1, 1), 2);
        Edge.due("the HOUSE's stand there", x.left(1, 4, 0), 1);
        Edge.due("not those of HOUSE 1 in HOUSE 0", x.left(0, 4, 0), 0);
        Edge.due("not those of HOUSE 1 in HOUSE 2", x.left(2, 4, 0), 0);

        Edge.of("What is left stays in the HOUSE.", 10);
        Edge.due("0 leaves nothing in HOUSE 0", x.evening(0, 1, 0), 2);
        Edge.due("PAIR 0 is in HOUSE 1 still", x.pair(0, 2), 11);
        Edge.due("0 and 1 in HOUSE 2, 1 first: 1 takes its own", x.evening(2, 3, 10), 3);
        Edge.due("PAIR 2 is with nobody: 0 would not wear less", x.person(0, 5), 2);
        Edge.due("and nothing is left", x.count(5), 1);
        Edge.due("all in HOUSE 1", x.evening(1, 7, 210), 4);
        Edge.due("2 has its own again", x.person(2, 5), 2);
        Edge.due("0 has its own again", x.person(0, 5), 0);
        Edge.due("nothing stands in a HOUSE", x.count(5), 0);
    }

    private static void orders() {
        Edge.of("They go in an ORDER (digits to the base 10, the first the highest: each guest once)", 10, 11);
        for (int order : new int[] {12, 21, 102, 120, 201, 210}) {
            Edge.due("ORDER " + order, Edge.three().evening(0, 7, order), 1);
        }
        int[] wrong = {-1, -12, -210, 0, 1, 2, 10, 11, 13, 20, 22, 100, 101, 112, 121, 122, 123, 211, 212, 213, 220, 222,
            312, 1012, 1210, 2012, 10012, 12012, 1000000012, Edge.BIG, Edge.SMALL};
        for (int order : wrong) {
            Edge.still(Edge::three, "ORDER " + order, t -> t.evening(0, 7, order), NONE);
        }
        Edge.due("guest 0 alone", Edge.three().evening(0, 1, 0), 1);
        Edge.due("guest 2 alone", Edge.three().evening(0, 4, 2), 1);
        Edge.due("guests 0 and 2", Edge.three().evening(0, 5, 2), 1);
        Edge.due("guests 2 and 0", Edge.three().evening(0, 5, 20), 1);
        Edge.still(Edge::three, "one who is no guest", t -> t.evening(0, 5, 1), NONE);
        Edge.still(Edge::three, "one who is no guest, too", t -> t.evening(0, 5, 12), NONE);
        Edge.still(Edge::three, "10 for guest 0 alone", t -> t.evening(0, 1, 10), NONE);
        Edge.still(Edge::three, "-0 is 0, -1 is none", t -> t.evening(0, 2, -1), NONE);
        Edge.due("the greatest of six", Check.people(Edge.ALIKE).evening(0, 63, 543210), 1);
        Edge.due("the least of six", Check.people(Edge.ALIKE).evening(0, 63, 12345), 1);
        Edge.still(() -> Check.people(Edge.ALIKE), "seven digits", t -> t.evening(0, 63, 5543210), NONE);
        Edge.still(() -> Check.people(Edge.ALIKE), "a seventh PERSON", t -> t.evening(0, 63, 643210), NONE);
        Edge.still(() -> Check.people(Edge.ALIKE), "six of five", t -> t.evening(0, 31, 12345), NONE);
        Edge.due("the first digit goes first", Edge.three().tried(0, 7, 12, 0), 1);
        Edge.due("the last digit goes last", Edge.three().tried(0, 7, 120, 0), 0);
    }

    private static void choices() {
        Edge.of("that with the greatest WORTH (of several its own, then the lowest)", 10, 11);
        BestPair x = Check.people("pw5;pw5;pw5;pf50w5;pw4;pw6f50");
        Edge.due("its own of several", x.tried(0, 7, 210, 2), 2);
        Edge.due("its own, the first", x.tried(0, 7, 12, 0), 0);
        Edge.due("its own does not FIT: the lowest", x.tried(0, 15, 3210, 3), 0);
        Edge.due("its own does not FIT: the lowest that is left", x.tried(0, 14, 321, 3), 1);
        Edge.due("its own is taken: the lowest that is left", x.tried(0, 15, 3012, 0), 1);
        Edge.due("its own is taken, and the next", x.tried(0, 15, 3012, 1), 2);
        Edge.due("its own is less by 1", x.tried(0, 17, 40, 4), 0);
        Edge.due("that is greater by 1 does not FIT", x.tried(0, 33, 5, 0), 0);
        Edge.due("WORTH 0 of several", Check.people("pw0;pw0").tried(0, 3, 10, 1), 1);
        Edge.due("WORTH 99 of several", Check.people("pw99;pw99").tried(0, 3, 10, 1), 1);
        Edge.due("99 rather than 98", Check.people("pw99;pw98").tried(0, 3, 10, 1), 0);
        Edge.due("1 rather than 0", Check.people("pw1;pw0").tried(0, 3, 10, 1), 0);
    }

    private static void barePeople() {
        Edge.of("BARE, if none does.", 10, 11);
        BestPair x = Check.people("ps41;ps40w0;ps40g9f41");
        Edge.due("none FITS", x.tried(0, 3, 1, 0), NONE);
        Edge.due("WORTH 0 FITS", x.tried(0, 2, 1, 1), 1);
        Edge.due("one FITS", x.tried(0, 5, 2, 0), 2);
        Edge.due("that one is taken", x.tried(0, 5, 20, 0), NONE);
        x.evening(0, 3, 1);
        Edge.due("BARE", x.person(0, 5), NONE);
        Edge.due("its PAIR: 1 takes it, for 50", x.person(1, 5), 0);
        x.evening(1, 1, 0);
        Edge.due("BARE still", x.person(0, 5), NONE);
    }

    private static void wornDown() {
        Edge.of("Behind all each PAIR that somebody wears home has WORTH less by its wearer's MILES (0 at least).", 10, 30);
        BestPair x = Check.people("ps40g0f40w10m9;ps41g0f41w9m9;ps42g0f42w8m9;ps43g0f43w5m0;ps44g0f44w0m9;ps45g0f46w7m9");
        x.evening(0, 63, 12345);
        int[] worth = {1, 0, 0, 5, 0, 7};
        for (int pair = 0; pair < 6; pair++) {
            Edge.due("WORTH of " + pair, x.pair(pair, 1), worth[pair]);
        }
        Edge.due("lost 9, 9, 8, and of PAIR 4 nothing", x.lost(), 26);
        x.evening(0, 63, 12345);
        Edge.due("1 less 9 is 0", x.pair(0, 1), 0);
        Edge.due("0 is 0", x.pair(1, 1), 0);
        Edge.due("what nobody wears is not worn down", x.pair(5, 1), 7);
        BestPair y = Check.people("pw20m3;pw90m7;pw50m1");
        y.evening(0, 3, 1);
        Edge.due("by its wearer's", y.pair(1, 1), 87);
        Edge.due("by its wearer's", y.pair(0, 1), 13);
        Edge.due("who stayed at home", y.pair(2, 1), 50);
        BestPair z = Check.people("pw50m9;pw45m0");
        z.evening(0, 3, 1);
        Edge.due("0 goes in 50: only behind all it is 41", z.person(1, 5), 1);
        Edge.due("41", z.pair(0, 1), 41);
    }

    private static int byRule(String people, String rule, int guests, int order, int person) {
        BestPair x = Check.people(people);
        x.rule(person, Check.rule(x, rule));
        return x.tried(0, guests, order, person);
    }

    private static void choicesByRule() {
        Edge.of("With a RULE of a PERSON (none at first) it takes that with the greatest WORTH of the RULE above 0 "
                + "(of several likewise), BARE, if none is above 0.", 10, 11);
        Edge.due("1", byRule("p;p", "y:1", 1, 0, 0), 0);
        Edge.due("0", byRule("p;p", "y:0", 1, 0, 0), NONE);
        Edge.due("-1", byRule("p;p", "y:0-1", 1, 0, 0), NONE);
        Edge.due("-1, 0", byRule("p;p", "y:p-1", 3, 1, 0), NONE);
        Edge.due("0, 1", byRule("p;p", "y:p", 3, 1, 0), 1);
        Edge.due("1, 0", byRule("p;p", "y:1-p", 3, 1, 0), 0);
        Edge.due("its own of several", byRule("p;p;p", "y:7", 7, 210, 2), 2);
        Edge.due("its own less by 1: the lowest", byRule("p;p;p", "y:7-o", 7, 210, 2), 0);
        Edge.due("its own more by 1", byRule("p;p;p", "y:7+o", 7, 210, 2), 2);
        Edge.due("the lowest that is left", byRule("p;p;p", "y:7-o", 6, 21, 2), 1);
        Edge.due("the greatest: 999,999, 1,000,000", byRule("p;p", "y:999*1001+p", 3, 1, 0), 1);
        Edge.due("both 1,000,000: its own", byRule("p;p", "y:999*1001+p+1", 3, 1, 0), 0);
        Edge.due("WORTH 0 is not above 0", byRule("pw0;p", "y:w", 1, 0, 0), NONE);
        BestPair x = Check.people("pw0;p");
        Check.rule(x, "y:0");
        Edge.due("none at first", x.tried(0, 1, 0, 0), 0);
        x.rule(0, 0);
        Edge.due("BARE by it", x.tried(0, 1, 0, 0), NONE);
        Edge.due("not the others", x.tried(0, 2, 1, 1), 1);
        x.rule(0, NONE);
        Edge.due("none again", x.tried(0, 1, 0, 0), 0);

        Edge.of("(PAIRS that do not FIT, too.)", 10, 11);
        Edge.due("too small", byRule("ps41;p", "y:1", 1, 0, 0), 0);
        Edge.due("too large", byRule("ps38;p", "y:1", 1, 0, 0), 0);
    }

    private static void letter(String people, String rule, boolean taken) {
        Edge.due(rule + " of " + people, byRule(people, rule, 1, 0, 0), taken ? 0 : NONE);
    }

    private static void letters() {
        Edge.of("Letters: w WORTH, f the PAIR's size less SIZE, s SIZE, o whether it is its own (1, 0)", 9, 10);
        letter("pw0;p", "y:w=0?1", true);
        letter("pw99;p", "y:w=99?1", true);
        letter("pw98;p", "y:w=99?1", false);
        letter("ps50f20;p", "y:f=0-30?1", true);
        letter("ps20f50;p", "y:f=30?1", true);
        letter("ps40f40;p", "y:f=0?1", true);
        letter("ps40f39;p", "y:f=0-1?1", true);
        letter("ps20;p", "y:s=20?1", true);
        letter("ps50;p", "y:s=50?1", true);
        letter("p;p", "y:o=1?1", true);
        Edge.due("not its own", byRule("p;p", "y:o=0?1", 3, 1, 0), 1);
        Edge.due("its own", byRule("p;p", "y:o=1?1", 3, 10, 1), 1);
        BestPair x = Check.people("pw20;pw90m7;p");
        x.evening(0, 3, 1);
        x.rule(0, Check.rule(x, "y:o"));
        Edge.due("what it has is not its own", x.tried(0, 1, 0, 0), NONE);
        Edge.due("its own, that another has", x.tried(0, 3, 1, 0), 0);
        x.rule(0, Check.rule(x, "y:w=89?1"));
        Edge.due("WORTH now", x.tried(0, 3, 1, 0), 1);
    }

    private static void doorNumbers() {
        Edge.of("n how many PAIRS stand at the door, p the PAIR.", 9, 10);
        for (int pair = 0; pair < 6; pair++) {
            Edge.due("PAIR " + pair, byRule(Edge.ALIKE, "y:p=" + pair + "?1", 63, 12345, 0), pair);
        }
        Edge.due("no PAIR 6", byRule(Edge.ALIKE, "y:p=6?1", 63, 12345, 0), NONE);
        Edge.due("one stands there", byRule(Edge.ALIKE, "y:n=1?1", 1, 0, 0), 0);
        Edge.due("six stand there", byRule(Edge.ALIKE, "y:n=6?1", 63, 12345, 0), 0);
        Edge.due("two, when the last but one goes", byRule(Edge.ALIKE, "y:n=2?1", 63, 123405, 0), 0);
        Edge.due("one, when the last goes", byRule(Edge.ALIKE, "y:n=1?1", 63, 123450, 0), 0);
        BestPair x = Edge.three();
        x.evening(0, 7, 12);
        x.rule(0, Check.rule(x, "y:n=2?1"));
        Edge.due("the HOUSE's, too", x.tried(0, 1, 0, 0), 0);
        Edge.due("not another HOUSE's", x.tried(1, 1, 0, 0), NONE);
    }

    private static void diary() {
        Edge.of("The first 30 EVENINGS are in a DIARY", 10, 24, 34);
        BestPair x = Check.people("ps41w99;pw50m2g9");
        for (int k = 1; k <= 29; k++) {
            Edge.due("EVENING " + k, x.evening(0, 2, 1), k);
        }
        Edge.due("29", x.count(3), 29);
        Edge.due("no 30th yet", x.been(1, 29), NONE);
        Edge.due("the 30th", x.evening(1, 3, 1), 30);
        Edge.due("0 was left in HOUSE 1 or taken", x.been(0, 29), 1);
        Edge.due("1 was left", x.been(1, 29), 11);
        Edge.due("the 31st is held", x.evening(1, 3, 1), 30);
        Edge.due("and wears down", x.pair(0, 1), 99 - 4);
        Edge.due("but is not in it", x.count(3), 30);
        Edge.due("no 31st", x.been(0, 30), NONE);
        x.evening(2, 2, 1);
        Edge.due("the 32nd", x.evening(3, 3, 1), 30);
        Edge.due("the 30th is as it was", x.been(1, 29), 11);
        Edge.due("the first is as it was", x.been(1, 0), 1);
        Edge.due("no SIGHT of a 31st", x.sight(30, 0, 40), NONE);
        Edge.due("a SIGHT of the 30th", x.sight(29, 0, 40), 1);

        Edge.of("behind each where each PAIR was (a PERSON, or 10 and the HOUSE).", 10, 24);
        BestPair y = Check.people("ps30;ps30;ps30;ps30;ps30;p");
        for (int house = 0; house < 4; house++) {
            y.evening(house, 1 << house, house);
        }
        for (int pair = 0; pair < 6; pair++) {
            for (int i = 0; i < 4; i++) {
                Edge.due("PAIR " + pair + " behind " + i, y.been(pair, i), pair <= i ? 10 + pair : pair);
            }
        }
    }

    private static void refusedEvenings() {
        Edge.of("An EVENING: how many are in the DIARY. NONE: no such HOUSE, guests, ORDER.", 10);
        int[][] wrong = {{-1, 3, 1}, {4, 3, 1}, {0, 0, 0}, {0, 64, 6}, {0, -1, 1}, {0, 3, 11}, {0, 3, 0}, {0, 3, 102},
            {0, 3, -1}, {0, 2, 0}, {3, 3, 12}};
        for (int[] w : wrong) {
            String call = "evening(" + w[0] + ", " + w[1] + ", " + w[2] + ")";
            Edge.everywhere(call, t -> t.evening(w[0], w[1], w[2]), NONE);
        }
        Edge.still(BestPair::new, "evening(0, 1, 0)", t -> t.evening(0, 1, 0), NONE);
        Edge.still(BestPair::new, "evening(0, 3, 1)", t -> t.evening(0, 3, 1), NONE);
        Edge.due("evening(3, 3, 1)", Edge.busy().evening(3, 3, 1), 4);
        Edge.due("evening(3, 3, 1)", Edge.full().evening(3, 3, 1), 30);
    }
}
