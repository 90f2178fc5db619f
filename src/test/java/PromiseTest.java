/** Promises 6 to 34, each by answers that were worked out by hand. */
public final class PromiseTest {
    private static final int HIDDEN = BestPair.HIDDEN;
    private static final int BIG = Integer.MAX_VALUE;
    private static final int SMALL = Integer.MIN_VALUE;

    /** 0 can wear all PAIRS, 1 the PAIRS 1 and 2, 2 its own alone. */
    private static final String THREE = "ps40g2w50f40o10m3j2;ps41g1w70f41o90m0j0;ps42g0w20f42o5m9j9";

    public static void main(String[] args) {
        personPairFits();
        rulesOfPersons();
        rulesReckon();
        evenings();
        wornDown();
        diaryIsFull();
        triedAndOrders();
        worstPlaces();
        hosts();
        hidden();
        rests();
        quiet();
        years();
        likely();
        cobbler();
        odd();
        sights();
        been();
        left();
        swaps();
        dreams();
        brings();
        steady();
        envy();
        images();
        counts();
        Check.due("NONE", BestPair.NONE, -1);
        Check.due("HIDDEN", BestPair.HIDDEN, -1000000);
        Check.end("PromiseTest");
    }

    private static BestPair three() {
        return Check.people(THREE);
    }

    private static BestPair six() {
        return Check.people("p;p;p;p;p;p");
    }

    private static void personPairFits() {
        BestPair x = Check.people("p;" + THREE);
        int[] plain = {40, 1, 1, 1, 10, 0, -1};
        int[] told = {40, 2, 3, 2, 10, 1, -1};
        for (int what = 0; what < 7; what++) {
            Check.due("person without items, " + what, x.person(0, what), plain[what]);
            Check.due("person told, " + what, x.person(1, what), told[what]);
        }
        for (int wrong : new int[] {-1, 4, 6, BIG, SMALL}) {
            Check.throwsNoSuch(x, wrong, 0);
            Check.due("pair " + wrong, x.pair(wrong, 0), -1);
            Check.due("fits " + wrong, x.fits(wrong, 0), -1);
            Check.due("fits " + wrong, x.fits(0, wrong), -1);
        }
        for (int wrong : new int[] {-1, 7, BIG, SMALL}) {
            Check.throwsNoSuch(x, 0, wrong);
            Check.due("pair's " + wrong, x.pair(0, wrong), -1);
        }
        Check.due("pair's 3", x.pair(0, 3), -1);
        Check.due("size", x.pair(3, 0), 42);
        Check.due("size without", x.pair(0, 0), 40);
        Check.due("WORTH", x.pair(3, 1), 20);
        Check.due("WORTH without", x.pair(0, 1), 50);
        Check.due("place", x.pair(3, 2), 3);
        Check.due("40 is 40", x.fits(1, 0), 1);
        Check.due("40 and 2", x.fits(1, 3), 1);
        Check.due("40 and 1 is below 42", x.fits(0, 3), 0);
        Check.due("41 is above 40", x.fits(2, 0), 0);
    }

    private static void rulesOfPersons() {
        BestPair x = three();
        Check.due("no such RULE", x.rule(0, 0), false);
        Check.due("none", x.rule(0, -1), true);
        Check.rule(x, "y:f=2?w");
        Check.rule(x, "y:100-w");
        Check.due("RULE", x.rule(0, 0), true);
        Check.due("RULE of 0", x.person(0, 6), 0);
        Check.due("no such RULE", x.rule(0, 2), false);
        Check.due("no such RULE", x.rule(0, -2), false);
        Check.due("no such PERSON", x.rule(3, 0), false);
        Check.due("no such PERSON", x.rule(-1, 0), false);
        Check.due("still RULE 0", x.person(0, 6), 0);
        Check.due("by the RULE", x.tried(0, 7, 12, 0), 2);
        Check.due("none above 0", x.tried(0, 3, 1, 0), -1);
        x.rule(2, 1);
        Check.due("the least WORTH, though it FITS not", x.tried(0, 7, 210, 2), 2);
        Check.due("of 50 and 70", x.tried(0, 7, 12, 2), 0);
        x.rule(0, -1);
        Check.due("no RULE again", x.tried(0, 7, 12, 0), 1);
        Check.due("RULES stay", x.count(1), 2);
    }

    /** What a PERSON would go in by a RULE, of all three, when it goes first. */
    private static void first(String rule, int person, int order, int want) {
        BestPair x = three();
        x.rule(person, Check.rule(x, rule));
        Check.due("by " + rule, x.tried(0, 7, order, person), want);
    }

    private static void rulesReckon() {
        first("y:5", 1, 102, 1);
        first("y:5", 2, 210, 2);
        first("y:[1-o]*5", 2, 210, 0);
        first("y:p", 0, 12, 2);
        first("y:3-p", 1, 102, 0);
        first("y:o", 1, 102, 1);
        first("y:w-20", 0, 12, 1);
        first("y:f", 0, 12, 2);
        first("y:0-f", 2, 210, 0);
        first("y:f-f", 0, 12, -1);
        first("y:0-1", 0, 12, -1);
        first("y:n=3?p", 0, 12, 2);
        first("y:n=2?p", 0, 12, -1);
        first("y:s=40?w", 0, 12, 1);
        first("y:s>40?w", 0, 12, -1);
        first("y:w>60?0;y:w", 0, 12, 0);
        first("y:w>60|w<30?0;y:w", 1, 102, 0);
        first("y:w>10&w<30?1", 0, 12, 2);
        first("y:!w>30?1", 0, 12, 2);
        first("y:!(w>30&w<60)?w", 0, 12, 1);
        first("y:w=70|p=0&p=2?1", 0, 12, 1);
        first("y:(w=70|p=0)&p=0?1", 0, 12, 0);
        first("y:w/0+p", 0, 12, 2);
        first("y:10-3-2*p=3?1", 0, 12, 2);
        first("y:[0-7]/2+3-p", 2, 210, -1);
        first("y:[0-7]/2+4-p", 1, 102, 0);
        first("y:9999*9999-9999*p", 0, 12, 0);
        first("y:9999*9999*9999*[p-1]", 0, 12, 2);
        first("y:9999*9999=9999*1000?1;y:0", 0, 12, 0);
        first("y:9999*9999*[0-1]+9999*9999+p", 0, 12, 2);
        first("y:0-9999*9999-9999*9999+9999*101+p", 0, 12, 2);
        first("y:100/w*10-10", 1, 102, 2);
        first("y:20/3*3-18+p", 0, 12, 2);
        first("y:9999*9999=1000*1000?p", 0, 12, 2);
        first("y:[0-9999]*9999=0-1000*1000?p", 0, 12, 2);
        first("y:1000*1000+1=1000*1000?p", 0, 12, 2);
        first("y:1000*1000-1=999*1000+999?p", 0, 12, 2);
        first("y:" + "p+".repeat(78) + "10", 0, 12, 2);
        first("y:w=1?1;".repeat(19) + "y:f", 0, 12, 2);
        first("y:!!!!p=[1+[1]]?1", 0, 12, 2);
        first("y:!!!!!p=1+1?1", 1, 102, 1);
        first("y:!(!(!(p=2|p=0&w>0)))?1", 2, 210, 1);
        first("y:p=0|p=0|p=0&p=0&p+[0*[0+[0*[0+[0]]]]]=[[[0]]]?[[[[[[7]]]]]]", 1, 102, 0);
    }

    private static void evenings() {
        BestPair x = three();
        for (int wrong : new int[] {-1, 4, BIG, SMALL}) {
            Check.due("house " + wrong, x.evening(wrong, 7, 12), -1);
        }
        for (int wrong : new int[] {0, 8, -1, BIG, SMALL}) {
            Check.due("guests " + wrong, x.evening(0, wrong, 12), -1);
        }
        for (int wrong : new int[] {11, 13, 112, 1, 1012, 2012, -12, BIG, SMALL}) {
            Check.due("order " + wrong, x.evening(0, 7, wrong), -1);
        }
        Check.due("too many digits", x.evening(0, 6, 102), -1);
        Check.due("nothing was", x.count(3), 0);
        Check.due("an EVENING", x.evening(1, 7, 12), 1);
        int[] has = {1, 2, -1};
        int[] place = {11, 0, 1};
        int[] worth = {50, 67, 20};
        for (int k = 0; k < 3; k++) {
            Check.due("has " + k, x.person(k, 5), has[k]);
            Check.due("place " + k, x.pair(k, 2), place[k]);
            Check.due("worth " + k, x.pair(k, 1), worth[k]);
        }
        Check.due("lost", x.lost(), 3);
        Check.due("nobody has one", x.count(5), 1);
        Check.due("in another HOUSE its PAIR is not there", x.tried(0, 1, 0, 0), 1);
        Check.due("BARE at another HOUSE", x.evening(0, 4, 2), 2);
        Check.due("still BARE", x.person(2, 5), -1);
        Check.due("0 alone at HOUSE 1", x.evening(1, 1, 0), 3);
        Check.due("keeps the better one", x.person(0, 5), 1);
        Check.due("worn again", x.pair(1, 1), 64);
    }

    private static void wornDown() {
        BestPair x = Check.people("pw5m9;pw5m0f41g0");
        x.evening(0, 3, 1);
        Check.due("0 at least", x.pair(0, 1), 0);
        Check.due("a PAIR of 0 is worn, too", x.tried(1, 1, 0, 0), 0);
        Check.due("lost 5", x.lost(), 5);
        Check.due("no MILES", x.pair(1, 1), 5);
        Check.due("one does not FIT its own", x.person(1, 5), -1);
        Check.due("it stays", x.pair(1, 2), 10);
    }

    private static void diaryIsFull() {
        BestPair x = Check.people("pw99;p");
        for (int k = 1; k <= 32; k++) {
            Check.due("evening " + k, x.evening(0, 1, 0), Math.min(30, k));
        }
        Check.due("EVENINGS go on", x.pair(0, 1), 99 - 32);
        Check.due("thirty", x.count(3), 30);
        Check.due("the last", x.been(0, 29), 0);
        Check.due("no 31st", x.been(0, 30), -1);
        Check.due("no SIGHT of it", x.sight(30, 0, 40), -1);
    }

    private static void triedAndOrders() {
        BestPair x = three();
        int[][] rows = {{12, 1, 2, -1}, {21, 1, -1, 2}, {102, 0, 1, 2}, {120, 0, 1, 2}, {201, 1, -1, 2}, {210, 0, 1, 2}};
        for (int[] row : rows) {
            for (int person = 0; person < 3; person++) {
                Check.due("tried " + row[0], x.tried(0, 7, row[0], person), row[1 + person]);
            }
        }
        int[][] many = {{0, 3, 3, 0}, {2, 0, 3, 1}, {1, 0, 0, 5}};
        for (int person = 0; person < 3; person++) {
            for (int pair = -1; pair < 3; pair++) {
                Check.due("orders " + person + " " + pair, x.orders(3, 7, person, pair), many[person][pair + 1]);
            }
        }
        Check.due("nothing is changed", x.count(3) + x.count(5), 0);
        Check.due("no guest", x.tried(0, 6, 12, 0), HIDDEN);
        Check.due("no such", x.tried(0, 7, 12, 3), HIDDEN);
        Check.due("no such", x.tried(4, 7, 12, 0), HIDDEN);
        Check.due("no such", x.tried(0, 8, 12, 0), HIDDEN);
        Check.due("no such", x.tried(0, 7, 11, 0), HIDDEN);
        Check.due("no guest", x.orders(0, 6, 0, 0), HIDDEN);
        Check.due("no such", x.orders(0, 7, -1, 0), HIDDEN);
        Check.due("no such", x.orders(0, 7, 0, 3), HIDDEN);
        Check.due("no such", x.orders(0, 7, 0, -2), HIDDEN);
        Check.due("no such", x.orders(-1, 7, 0, 0), HIDDEN);
        Check.due("no such", x.orders(0, 0, 0, 0), HIDDEN);
        Check.due("not at the door", x.orders(0, 3, 0, 2), 0);
        Check.due("720 of six", six().orders(0, 63, 5, 5), 720);
    }

    private static void worstPlaces() {
        BestPair x = three();
        Check.due("140, 120, 100", x.worst(0, 7, 0), 2);
        Check.due("140, 90, 0", x.worst(0, 7, 1), 2);
        Check.due("40, 40, 20", x.worst(0, 7, 2), 2);
        Check.due("of several the first", x.worst(0, 6, 1), 0);
        Check.rule(x, "y:9999-n*1000-w");
        x.rule(0, 0);
        Check.due("the least first: 20 and 20, 20 and 50, 50 and 50", x.worst(0, 7, 0), 0);
        Check.due("no guest", x.worst(0, 6, 0), -1);
        Check.due("no such", x.worst(0, 7, 3), -1);
        Check.due("no such", x.worst(4, 7, 0), -1);
        Check.due("no such", x.worst(0, 9, 0), -1);
    }

    private static void hosts() {
        BestPair x = three();
        int[] much = {0, 140, 3, 20};
        for (int wish = 0; wish < 4; wish++) {
            Check.due("order by " + wish, x.host(2, 7, wish, 0), 102);
            Check.due("much by " + wish, x.host(2, 7, wish, 1), much[wish]);
        }
        Check.due("one guest", x.host(0, 4, 1, 0), 2);
        Check.due("six", six().host(0, 63, 0, 0), 12345);
        Check.due("no such wish", x.host(0, 7, 4, 0), -1);
        Check.due("no such wish", x.host(0, 7, -1, 0), -1);
        Check.due("no such what", x.host(0, 7, 0, 2), -1);
        Check.due("no such what", x.host(0, 7, 0, -1), -1);
        Check.due("no such house", x.host(4, 7, 0, 0), -1);
        Check.due("no such guests", x.host(0, 8, 0, 0), -1);
        BestPair bare = Check.people("ps30w9;ps30w9");
        Check.due("both BARE", bare.host(0, 3, 0, 1), 2);
        Check.due("no WORTH", bare.host(0, 3, 3, 1), 0);
        Check.due("the least", bare.host(0, 3, 0, 0), 1);
    }

    private static void hidden() {
        BestPair x = three();
        Check.due("1 in 1", x.hide(0, 7, 12, 1, 1), 0);
        Check.due("1 BARE", x.hide(0, 7, 12, 1, -1), 4);
        Check.due("2 BARE", x.hide(0, 7, 12, 2, -1), 7);
        Check.due("0 in 0", x.hide(0, 7, 12, 0, 0), 2);
        Check.due("0 in 1 as ever", x.hide(0, 7, 12, 0, 1), 5);
        Check.due("only what stands at the door", x.hide(0, 3, 1, 1, -1), 3);
        Check.due("no guest", x.hide(0, 6, 12, 0, 0), -1);
        Check.due("no such", x.hide(0, 7, 12, 3, 0), -1);
        Check.due("no such", x.hide(0, 7, 12, 0, 3), -1);
        Check.due("no such", x.hide(0, 7, 12, 0, -2), -1);
        Check.due("no such", x.hide(0, 7, 11, 0, 0), -1);
        Check.due("no such", x.hide(4, 7, 12, 0, 0), -1);
        x.evening(0, 7, 12);
        Check.due("the HOUSE's, too", x.hide(0, 1, 0, 0, 0), 2);
        Check.rule(x, "y:n=1?1");
        x.rule(0, 0);
        Check.due("hidden ones do not stand there", x.hide(0, 1, 0, 0, 1), 1);
    }

    private static void rests() {
        BestPair x = three();
        Check.due("one", x.rests(0, 3, 1, -1), 1);
        Check.due("both at once", x.rests(0, 3, 1, 0), 0);
        Check.due("no second", x.rests(0, 3, 1, 1), -1);
        Check.due("alone it waits", x.rests(0, 1, 3, 0), 3);
        Check.due("alone it waits", x.rests(0, 1, 2, 0), 2);
        Check.due("without JOY all are alike", x.rests(0, 2, 3, -1), 4);
        Check.due("the third", x.rests(0, 2, 3, 2), 2);
        Check.due("2 waits, 1 may: 3, 7, 11, 15", x.rests(0, 6, 3, -1), 4);
        Check.due("lowest guest the highest", x.rests(0, 6, 3, 1), 7);
        Check.due("no rounds", x.rests(0, 3, 0, -1), -1);
        Check.due("four rounds", x.rests(0, 3, 4, -1), -1);
        Check.due("no such house", x.rests(4, 3, 1, -1), -1);
        Check.due("no such guests", x.rests(0, 0, 1, -1), -1);
        Check.due("no such i", x.rests(0, 3, 1, -2), -1);
        Check.due("four guests", six().rests(0, 15, 3, -1), 1);
        Check.due("all wait", six().rests(0, 60, 3, 0), 255);
        Check.due("five guests", six().rests(0, 31, 1, -1), -1);
    }

    private static void quiet() {
        BestPair x = three();
        Check.due("one", x.quiet(3, -1), 1);
        Check.due("0 in the old one", x.quiet(3, 0), 1);
        Check.due("no second", x.quiet(3, 1), -1);
        Check.due("alone all is alike", x.quiet(2, -1), 2);
        Check.due("alone, none", x.quiet(2, 0), 0);
        Check.due("alone, itself", x.quiet(2, 1), 2);
        Check.due("no guests", x.quiet(0, -1), -1);
        Check.due("no such guests", x.quiet(8, -1), -1);
        Check.due("no such i", x.quiet(3, -2), -1);
        x.evening(0, 7, 12);
        Check.due("own PAIRS wherever they are", x.quiet(3, 0), 1);
        BestPair alike = Check.people("po50;po50;po50;po50;po50;po50");
        Check.due("six guests, all alike", alike.quiet(63, -1), 64);
        Check.due("rising", alike.quiet(42, 5), 34);
    }

    private static void years() {
        BestPair x = three();
        Check.due("none", x.year(0, 1), -1);
        Check.due("61", x.year(61, 1), -1);
        Check.due("below", x.year(-1, 1), -1);
        Check.due("nothing was", x.count(3), 0);
        x.year(60, 5);
        Check.due("thirty in the DIARY", x.count(3), 30);
        BestPair y = three();
        java.math.BigInteger[] state = {java.math.BigInteger.ZERO};
        int house = bigDraw(state, 4);
        int guests = bigDraw(state, 2) + 2 * bigDraw(state, 2) + 4 * bigDraw(state, 2);
        int[] row = row(guests == 0 ? 7 : guests);
        for (int at = row.length - 1; at > 0; at--) {
            int other = bigDraw(state, at + 1);
            int person = row[at];
            row[at] = row[other];
            row[other] = person;
        }
        int order = 0;
        for (int person : row) {
            order = order * 10 + person;
        }
        BestPair z = three();
        z.evening(house, guests == 0 ? 7 : guests, order);
        int bare = 0;
        for (int k = 0; k < 3; k++) {
            bare += z.person(k, 5) == -1 ? 1 : 0;
        }
        Check.due("a YEAR of one", y.year(1, 0), bare);
        for (int k = 0; k < 3; k++) {
            Check.due("has", y.person(k, 5), z.person(k, 5));
            Check.due("worth", y.pair(k, 1), z.pair(k, 1));
            Check.due("place", y.pair(k, 2), z.pair(k, 2));
        }
        Check.due("all BARE", Check.people("ps30;ps30").year(60, 9), 2);
    }

    private static int[] row(int guests) {
        int[] row = new int[Integer.bitCount(guests)];
        int at = 0;
        for (int k = 0; k < 6; k++) {
            if ((guests >> k & 1) == 1) {
                row[at++] = k;
            }
        }
        return row;
    }

    private static int bigDraw(java.math.BigInteger[] state, int many) {
        java.math.BigInteger round = java.math.BigInteger.ONE.shiftLeft(64);
        state[0] = state[0].multiply(new java.math.BigInteger("6364136223846793005"))
                .add(new java.math.BigInteger("1442695040888963407")).mod(round);
        return state[0].shiftRight(33).mod(java.math.BigInteger.valueOf(many)).intValue();
    }

    private static void likely() {
        BestPair x = three();
        x.evening(1, 7, 12);
        Check.due("now", x.likely(0, 2, -1), 1000000000);
        Check.due("not now", x.likely(0, 2, 2), 0);
        Check.due("four of six", x.likely(1, 2, 2), 666666664);
        Check.due("two of six", x.likely(1, 0, -1), 333333332);
        Check.due("states are cut together", x.likely(2, 2, 2), 666666656);
        Check.due("in another HOUSE", x.likely(20, 0, 0), 0);
        Check.due("n", x.likely(-1, 0, 0), -1);
        Check.due("n", x.likely(21, 0, 0), -1);
        Check.due("no such", x.likely(1, 3, 0), -1);
        Check.due("no such", x.likely(1, -1, 0), -1);
        Check.due("no such", x.likely(1, 0, 3), -1);
        Check.due("no such", x.likely(1, 0, -2), -1);
        Check.due("five", Check.people("p;p;p;p;p").likely(1, 0, 0), -1);
        Check.due("four", Check.people("p;p;p;p").likely(1, 0, 0), 999999984);
        Check.due("two, not cut", Check.people("p;p").likely(20, 0, 0), 1000000000);
    }

    private static void cobbler() {
        BestPair x = three();
        Check.due("size", x.cobbler(0, 7, 2, 50, 0), 42);
        Check.due("often", x.cobbler(0, 7, 2, 50, 1), 5);
        Check.due("one that fits it alone", x.cobbler(0, 7, 0, 99, 0), 40);
        Check.due("always", x.cobbler(0, 7, 0, 99, 1), 6);
        Check.due("as good as the other: its own", x.cobbler(0, 7, 0, 70, 1), 6);
        Check.due("it takes 1, if that is there", x.cobbler(0, 7, 0, 69, 1), 3);
        Check.rule(x, "y:w=7?1");
        x.rule(2, 0);
        Check.due("size is nothing to it", x.cobbler(0, 4, 2, 7, 0), 20);
        Check.due("never", x.cobbler(0, 7, 2, 8, 1), 0);
        Check.due("never: the least size", x.cobbler(0, 7, 2, 8, 0), 20);
        Check.due("worth", x.cobbler(0, 7, 2, 100, 0), -1);
        Check.due("worth", x.cobbler(0, 7, 2, -1, 0), -1);
        Check.due("what", x.cobbler(0, 7, 2, 1, 2), -1);
        Check.due("what", x.cobbler(0, 7, 2, 1, -1), -1);
        Check.due("no guest", x.cobbler(0, 3, 2, 1, 0), -1);
        Check.due("no such", x.cobbler(0, 7, 3, 1, 0), -1);
        Check.due("no such", x.cobbler(4, 7, 2, 1, 0), -1);
        x.rule(2, Check.rule(x, "y:n=1?1"));
        Check.due("only if it stands there alone", x.cobbler(0, 4, 2, 7, 1), 1);
        Check.due("only if it stands there alone", x.cobbler(0, 6, 2, 7, 1), 1);
        Check.due("the greatest size", Check.people("ps50;p").cobbler(0, 3, 0, 9, 0), 50);
        Check.due("the least size", Check.people("ps20;p").cobbler(0, 3, 0, 9, 0), 20);
        Check.due("SIZE and GIVE is the last one", Check.people("ps41g9f50w60;pg1w70f41o3").cobbler(0, 1, 0, 0, 1), 1);
        x.rule(2, -1);
        x.evening(0, 7, 12);
        // 0 has 1 now, and comes in a new one: 1 stays at home, so nothing better is there.
        Check.due("what it has stays at home", x.cobbler(0, 7, 0, 51, 1), 6);
        // 1 had PAIR 2, which is away: 2 comes in a new one under its number.
        Check.due("its PAIR is away", x.cobbler(0, 7, 2, 10, 1), 5);
        Check.due("nothing is changed", x.pair(2, 0) + x.pair(2, 1), 42 + 20);
    }

    private static void odd() {
        BestPair x = new BestPair();
        for (int n = 0; n <= 6; n++) {
            for (int many = 1; many <= 6; many++) {
                for (int row = -1; row <= (n < 5 ? 4400 : 44000); row++) {
                    int sum = Integer.toString(Math.abs(row)).chars().map(c -> c - '0').sum();
                    // The long search only for rows whose digits may be right.
                    int want = sum == n * (n - 1) / 2 ? Model.odd(n, row, many) : -1;
                    Check.due("odd(" + n + ", " + row + ", " + many + ")", x.odd(n, row, many), want);
                }
            }
        }
        Check.due("big", x.odd(5, BIG, 2), -1);
        Check.due("small", x.odd(5, SMALL, 2), -1);
        Check.due("ring of five by two", x.odd(5, 12340, 2), 4);
        Check.due("ring of five by three", x.odd(5, 12340, 3), 2);
        Check.due("ring of five by four", x.odd(5, 12340, 4), 2);
        Check.due("ring of five by five", x.odd(5, 12340, 5), 1);
    }

    private static void sights() {
        BestPair x = three();
        Check.due("no DIARY", x.sight(0, 0, 40), -1);
        Check.due("all agree", x.agree(), 7);
        x.evening(1, 7, 12);
        Check.due("size", x.sight(0, 0, 19), -1);
        Check.due("size", x.sight(0, 0, 51), -1);
        Check.due("where", x.sight(0, 3, 40), -1);
        Check.due("where", x.sight(0, -1, 40), -1);
        Check.due("where", x.sight(0, 9, 40), -1);
        Check.due("where", x.sight(0, 14, 40), -1);
        Check.due("evening", x.sight(1, 0, 40), -1);
        Check.due("evening", x.sight(-1, 0, 40), -1);
        Check.due("none", x.count(4), 0);
        Check.due("a SIGHT", x.sight(0, 11, 40), 1);
        Check.due("0 was there", x.agree(), 1);
        for (int k = 2; k <= 20; k++) {
            Check.due("a SIGHT", x.sight(0, 11, 40), k);
        }
        Check.due("0 was there", x.agree(), 1);
        Check.due("21", x.sight(0, 11, 40), -1);
        Check.due("twenty", x.count(4), 20);
        BestPair y = three();
        y.evening(1, 7, 12);
        y.sight(0, 0, 50);
        Check.due("no such size", y.agree(), 0);
        Check.due("size 20", y.sight(0, 0, 20), 2);
        BestPair z = six();
        z.evening(0, 63, 12345);
        z.sight(0, 13, 40);
        Check.due("nobody was in HOUSE 3", z.agree(), 0);
    }

    private static void been() {
        BestPair x = three();
        Check.due("nowhere yet", x.been(0, -1), 0);
        Check.due("no EVENING", x.been(0, 0), -1);
        x.evening(1, 7, 12);
        x.evening(0, 5, 20);
        x.evening(1, 1, 0);
        Check.due("in HOUSE 1", x.been(0, -1), 1);
        Check.due("in HOUSE 1", x.been(0, 2), 11);
        Check.due("with 0", x.been(1, 0), 0);
        Check.due("with 1", x.been(2, 0), 1);
        Check.due("no such", x.been(3, -1), -1);
        Check.due("no such", x.been(-1, -1), -1);
        Check.due("no such", x.been(0, 3), -1);
        Check.due("no such", x.been(0, -2), -1);
        x.evening(1, 3, 10);
        Check.due("1 has 1", x.been(1, 3), 1);
        Check.due("2 was left", x.been(2, 3), 11);
        Check.due("two places", x.been(1, -1), 2);
        Check.due("two places", x.been(2, -1), 2);
    }

    private static void left() {
        BestPair x = three();
        Check.due("by all", x.left(0, 7, 0), 0);
        Check.due("by one", x.left(0, 7, 1), 1);
        Check.due("nothing", x.left(0, 1, 1), 0);
        x.evening(2, 7, 12);
        Check.due("the HOUSE's by all", x.left(2, 1, 0), 1);
        Check.due("the HOUSE's by one", x.left(2, 1, 1), 1);
        Check.due("not the other HOUSES'", x.left(1, 1, 1), 0);
        Check.due("what", x.left(0, 7, 2), -1);
        Check.due("what", x.left(0, 7, -1), -1);
        Check.due("house", x.left(-1, 7, 0), -1);
        Check.due("guests", x.left(0, 8, 0), -1);
    }

    private static void swaps() {
        BestPair x = three();
        Check.due("30 more", x.swap(0, 7, 12, 0, 1), 30);
        Check.due("30 less", x.swap(0, 7, 102, 1, 0), -30);
        Check.due("the same", x.swap(0, 7, 12, 1, 2), 0);
        Check.due("alike", x.swap(0, 7, 12, 1, 1), HIDDEN);
        Check.due("no guest", x.swap(0, 6, 12, 0, 1), HIDDEN);
        Check.due("no guest", x.swap(0, 6, 12, 1, 0), HIDDEN);
        Check.due("no such", x.swap(0, 7, 12, 3, 0), HIDDEN);
        Check.due("no such", x.swap(0, 7, 12, 0, -1), HIDDEN);
        Check.due("no such", x.swap(0, 7, 13, 0, 1), HIDDEN);
        Check.due("no such", x.swap(4, 7, 12, 0, 1), HIDDEN);
        Check.due("no such", x.swap(0, 8, 12, 0, 1), HIDDEN);
    }

    private static void dreams() {
        BestPair x = three();
        Check.due("all their own", x.dream(0, 7, -1), 140);
        for (int k = 0; k < 3; k++) {
            Check.due("own " + k, x.dream(0, 7, k), k);
        }
        Check.rule(x, "y:0");
        x.rule(0, 0);
        Check.due("RULES are left out", x.dream(0, 7, -1), 140);
        Check.due("no guest", x.dream(0, 6, 0), HIDDEN);
        Check.due("no such", x.dream(0, 7, 3), HIDDEN);
        Check.due("no such", x.dream(0, 7, -2), HIDDEN);
        Check.due("no such", x.dream(4, 7, -1), HIDDEN);
        Check.due("no such", x.dream(0, 0, -1), HIDDEN);
        x.rule(0, -1);
        x.evening(0, 7, 12);
        Check.due("the HOUSE's, too", x.dream(0, 1, 0), 1);
        Check.due("another one goes in it", x.dream(0, 3, 0), 0);
        Check.due("another one goes in it", x.dream(0, 3, 1), 1);
        Check.due("50 and 67 and 20", x.dream(0, 7, -1), 137);
        Check.due("BARE", x.dream(1, 4, 2), -1);
        Check.due("nothing", x.dream(1, 4, -1), 0);
        BestPair y = Check.people("pw5;pw5;pw0");
        Check.due("the lowest has the lowest", y.dream(0, 7, 0), 0);
        Check.due("then the next", y.dream(0, 7, 1), 1);
        Check.due("a PAIR of 0 rather than BARE", y.dream(0, 7, 2), 2);
        BestPair z = Check.people("ps40g0w0;ps40g0w7f41;ps41");
        Check.due("the lowest PAIR, then BARE", z.dream(0, 5, 2), -1);
    }

    private static void brings() {
        BestPair x = three();
        Check.due("has it", x.bring(0, 0), 0);
        Check.due("by 012", x.bring(0, 1), 1);
        Check.due("by 012", x.bring(1, 2), 1);
        Check.due("never: it FITS not", x.bring(2, 0), -1);
        Check.due("never: 0 has a better one ever", x.bring(0, 2), -1);
        x.evening(1, 7, 12);
        Check.due("it is in another HOUSE", x.bring(0, 0), -1);
        Check.due("back to its own", x.bring(2, 2), 1);
        Check.due("no such", x.bring(3, 0), -1);
        Check.due("no such", x.bring(-1, 0), -1);
        Check.due("no such", x.bring(0, 3), -1);
        Check.due("BARE is no PAIR", x.bring(0, -1), -1);
        Check.due("five", Check.people("p;p;p;p;p").bring(0, 0), -1);
        Check.due("four", Check.people("p;p;p;p").bring(3, 3), 0);
        // 2 would rather have its own: 0 must take that home, ahead of an EVENING without 0.
        Check.due("two EVENINGS", Check.people("ps40g2w90f43;ps40g1w20f41;ps40g1w20f40").bring(2, 1), 2);
    }

    private static void steady() {
        Check.due("would change", three().steady(), 0);
        Check.due("own ones as good", Check.people("p;p;p;p").steady(), 1);
        Check.due("five", Check.people("p;p;p;p;p").steady(), -1);
        BestPair x = Check.people("ps30;ps30");
        Check.due("BARE behind it", x.steady(), 0);
        x.evening(0, 3, 1);
        Check.due("BARE already", x.steady(), 1);
    }

    private static void envy() {
        BestPair x = three();
        Check.due("0 would have 1's", x.envy(-1), 1);
        Check.due("0 would have 1's", x.envy(0), 1);
        x.evening(1, 7, 12);
        Check.due("two", x.envy(-1), 2);
        Check.due("1 would have 0's", x.envy(0), 10);
        Check.due("2 would have 1's", x.envy(1), 21);
        Check.due("no third", x.envy(2), -1);
        Check.due("no such", x.envy(-2), -1);
        BestPair y = Check.people("pw0;ps30w9");
        y.evening(0, 2, 1);
        Check.due("WORTH 0 is not greater than BARE", y.envy(-1), 0);
        Check.due("as good is not greater", six().envy(-1), 0);
    }

    private static void images() {
        BestPair x = three();
        Check.due("no IMAGE", x.back(), -1);
        x.evening(1, 7, 12);
        x.sight(0, 0, 41);
        Check.due("IMAGE", x.image(), 1);
        Check.rule(x, "y:w");
        x.rule(0, 0);
        x.evening(1, 7, 210);
        x.sight(1, 0, 41);
        Check.due("other", x.pair(0, 2), 0);
        Check.due("BACK", x.back(), 1);
        Check.due("RULES are not of it", x.person(0, 6), 0);
        Check.due("place", x.pair(0, 2), 11);
        Check.due("has", x.person(0, 5), 1);
        Check.due("WORTH", x.pair(1, 1), 67);
        Check.due("DIARY", x.count(3), 1);
        Check.due("SIGHTS", x.count(4), 1);
        Check.due("agree", x.agree(), 2);
        x.evening(1, 7, 210);
        Check.due("BACK again", x.back(), 1);
        Check.due("place", x.pair(0, 2), 11);
        x.evening(0, 1, 0);
        Check.due("instead of the one ahead", x.image(), 2);
        x.evening(0, 1, 0);
        Check.due("BACK", x.back(), 2);
        Check.tape(x, "p;p;");
        x.text(0);
        Check.due("no other PEOPLE, still BACK", x.back(), 2);
        Check.tape(x, "p;p");
        x.text(0);
        Check.due("other PEOPLE", x.back(), -1);
        Check.due("IMAGE of them", x.image(), 0);
        Check.due("BACK of them", x.back(), 0);
    }

    private static void counts() {
        BestPair x = three();
        Check.due("no such", x.count(6), HIDDEN);
        Check.due("no such", x.count(-1), HIDDEN);
        Check.due("no such", x.count(BIG), HIDDEN);
        x.feed(1, 0, 0, 0, 0);
        Check.due("PEOPLE", x.count(0), 3);
        Check.due("TAPE", x.count(2), 1);
        x.evening(0, 7, 12);
        x.sight(0, 0, 40);
        Check.due("EVENINGS", x.count(3), 1);
        Check.due("SIGHTS", x.count(4), 1);
        Check.due("alone", x.count(5), 1);
        Check.due("RULES", x.count(1), 0);
    }
}
