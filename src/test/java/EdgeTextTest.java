/** The sentences of the document that name a boundary of promises 1 to 5, and of its part 1. */
public final class EdgeTextTest {
    private static final int NONE = BestPair.NONE;
    private static final int FULL = 0x70707070;

    public static void main(String[] args) {
        all();
        Check.end("EdgeTextTest");
    }

    static void all() {
        newObject();
        feeds();
        ends();
        faults();
        texts();
        peopleTexts();
        items();
        ruleTexts();
        conditions();
        depths();
        blanks();
        faultPlaces();
        reckoning();
        firstClauses();
        calls();
    }

    private static void newObject() {
        Edge.of("No PEOPLE.", 1);
        for (int what = 0; what < 6; what++) {
            Edge.due("count(" + what + ")", new BestPair().count(what), 0);
        }
        Edge.due("there are no four RULES", Check.rule(new BestPair(), "y:1"), 0);
        Edge.due("person(0, 0) throws", Edge.throwing(new BestPair(), 0, 0), 1);
        Edge.of("`NONE = -1`: None; refused.", 1);
        Edge.due("NONE", BestPair.NONE, -1);
        Edge.of("`HIDDEN = -1000000`: Not told.", 1);
        Edge.due("HIDDEN", BestPair.HIDDEN, -1000000);
    }

    /** A TAPE with so many bytes. */
    private static BestPair bytes(int many) {
        BestPair x = new BestPair();
        Check.tape(x, "p".repeat(many));
        return x;
    }

    private static void feeds() {
        Edge.of("Twenty bytes more come to the TAPE (of each number the highest first; bytes of 0 are left out): "
                + "how many it has.", 2);
        Edge.due("none of twenty", new BestPair().feed(0, 0, 0, 0, 0), 0);
        Edge.due("the last of twenty", new BestPair().feed(0, 0, 0, 0, 1), 1);
        Edge.due("the first of twenty", new BestPair().feed(0x01000000, 0, 0, 0, 0), 1);
        Edge.due("all twenty, of 255", new BestPair().feed(-1, -1, -1, -1, -1), 20);
        Edge.due("bytes of 128", new BestPair().feed(0x80808080, 0x80008000, 0, 0, 0), 6);
        BestPair x = new BestPair();
        x.feed(0x70003b00, 0x0070, 0x77000000, 0x39, 0x3b700000);
        Edge.due("p;pw9;p: no FAULT", x.fault(0), NONE);
        Edge.due("p;pw9;p: three PEOPLE", x.text(0), 3);
        Edge.due("p;pw9;p: WORTH 9", x.pair(1, 1), 9);

        Edge.of("NONE: more than 160.", 2);
        Edge.due("159 and 1", bytes(159).feed(0, 0, 0x70, 0, 0), 160);
        Edge.due("140 and 20", bytes(140).feed(FULL, FULL, FULL, FULL, FULL), 160);
        Edge.still(() -> bytes(160), "160 and 1", t -> t.feed(0, 0, 0x70, 0, 0), NONE);
        Edge.still(() -> bytes(141), "141 and 20", t -> t.feed(FULL, FULL, FULL, FULL, FULL), NONE);
        Edge.still(() -> bytes(159), "159 and 2", t -> t.feed(0x70000000, 0, 0, 0, 0x70), NONE);
        Edge.still(() -> bytes(160), "160 and none", t -> t.feed(0, 0, 0, 0, 0), 160);
        Edge.still(Edge::full, "160 and 1", t -> t.feed(1, 0, 0, 0, 0), NONE);
        for (int place = 0; place < 20; place++) {
            int[] five = new int[5];
            five[place / 4] = 0x70 << 24 - 8 * (place % 4);
            Edge.due("159 and byte " + place, bytes(159).feed(five[0], five[1], five[2], five[3], five[4]), 160);
            Edge.due("160 and byte " + place, bytes(160).feed(five[0], five[1], five[2], five[3], five[4]), NONE);
        }
    }

    private static void ends() {
        Edge.of("The TAPE has its first n bytes alone.", 3);
        BestPair x = new BestPair();
        Check.tape(x, "p;pw7;p");
        Edge.due("all 7", x.end(7), true);
        Edge.due("7 bytes", x.count(2), 7);
        Edge.due("6", x.end(6), true);
        Edge.due("ends too early now", x.fault(0), 6);
        Edge.due("3", x.end(3), true);
        Edge.due("p;p", x.fault(0), NONE);
        Edge.due("what came behind is gone", x.feed(0x77380000, 0, 0, 0, 0), 5);
        Edge.due("p;pw8", x.text(0), 2);
        Edge.due("WORTH 8", x.pair(1, 1), 8);
        Edge.due("0 of none", x.end(0), true);
        Edge.due("none", bytes(160).end(0), true);

        Edge.of("False: n.", 3);
        Edge.everywhere("end(-1)", t -> t.end(-1) ? 1 : 0, 0);
        Edge.everywhere("end(161)", t -> t.end(161) ? 1 : 0, 0);
        Edge.everywhere("end(BIG)", t -> t.end(Edge.BIG) ? 1 : 0, 0);
        Edge.everywhere("end(SMALL)", t -> t.end(Edge.SMALL) ? 1 : 0, 0);
        Edge.still(BestPair::new, "end(1) of none", t -> t.end(1) ? 1 : 0, 0);
        Edge.still(() -> bytes(7), "end(8) of 7", t -> t.end(8) ? 1 : 0, 0);
        Edge.still(() -> bytes(7), "end(7) of 7", t -> t.end(7) ? 1 : 0, 1);
        Edge.due("end(160) of 160", bytes(160).end(160), true);
    }

    private static void faults() {
        Edge.of("NONE: none.", 4);
        Edge.due("as PEOPLE", Check.fault(0, "p;p"), NONE);
        Edge.due("as a RULE", Check.fault(1, "y:1"), NONE);
        Edge.due("PEOPLE are no RULE", Check.fault(1, "p;p"), 0);
        Edge.due("a RULE is no PEOPLE", Check.fault(0, "y:1"), 0);
        Edge.due("an empty TAPE as PEOPLE", new BestPair().fault(0), 0);
        Edge.due("an empty TAPE as a RULE", new BestPair().fault(1), 0);
        Edge.still(Edge::busy, "fault(0) only asks", t -> t.fault(0), NONE);
        Edge.still(Edge::busy, "fault(1) only asks", t -> t.fault(1), 0);
        Edge.still(Edge::full, "fault(0) only asks", t -> t.fault(0), NONE);

        Edge.of("-2: no such sort.", 4);
        for (int sort : new int[] {-2, -1, 2, 3, Edge.BIG, Edge.SMALL}) {
            Edge.everywhere("fault(" + sort + ")", t -> t.fault(sort), -2);
        }
    }

    private static void texts() {
        Edge.of("The TAPE (empty then) is the PEOPLE (all that was of others is gone but RULES): how many; "
                + "a RULE: its number.", 5);
        for (int many = 2; many <= 6; many++) {
            BestPair x = new BestPair();
            Check.tape(x, "p" + ";p".repeat(many - 1));
            Edge.due(many + " PEOPLE", x.text(0), many);
            Edge.due("the TAPE is empty", x.count(2), 0);
            Edge.due("how many there are", x.count(0), many);
        }
        othersAreGone();

        Edge.of("NONE: a FAULT, no such sort, there are four.", 5);
        for (int sort : new int[] {-2, -1, 2, Edge.BIG, Edge.SMALL}) {
            Edge.everywhere("text(" + sort + ")", t -> t.text(sort), NONE);
        }
        Edge.still(Edge::busy, "PEOPLE are no RULE", t -> t.text(1), NONE);
        Edge.still(BestPair::new, "an empty TAPE as PEOPLE", t -> t.text(0), NONE);
        Edge.still(BestPair::new, "an empty TAPE as a RULE", t -> t.text(1), NONE);
        Edge.still(() -> busyWith("p;p;"), "ends too early", t -> t.text(0), NONE);
        Edge.still(() -> busyWith("pw9;ps19"), "a number out of bounds", t -> t.text(0), NONE);
        Edge.still(() -> busyWith("y:1;y:z"), "a wrong letter", t -> t.text(1), NONE);
        Edge.still(() -> busyWith("y:1"), "a RULE is no PEOPLE", t -> t.text(0), NONE);
        Edge.still(EdgeTextTest::fifthRule, "a fifth RULE", t -> t.text(1), NONE);

        Edge.of("RULES (4 at most) are TEXTS", 5, 34);
        BestPair x = new BestPair();
        for (int rule = 0; rule < 4; rule++) {
            Edge.due("RULE " + rule, Check.rule(x, "y:" + rule), rule);
            Edge.due("how many", x.count(1), rule + 1);
            Edge.due("the TAPE is empty", x.count(2), 0);
        }
        Edge.due("a fifth", Check.rule(x, "y:4"), NONE);
        Edge.due("four", x.count(1), 4);
        Edge.due("the TAPE is as it was", x.count(2), 3);
        Edge.due("a fifth is no FAULT", x.fault(1), NONE);
        Check.tape(x, "p;p");
        Edge.due("PEOPLE are taken, though there are four RULES", x.text(0), 2);
        Edge.due("the last one", x.rule(0, 3), true);
    }

    private static BestPair busyWith(String text) {
        BestPair x = Edge.busy();
        Check.tape(x, text);
        return x;
    }

    private static BestPair fifthRule() {
        BestPair x = Edge.full();
        Check.tape(x, "y:w=7?9");
        return x;
    }

    private static void othersAreGone() {
        BestPair x = Edge.full();
        Edge.due("three instead of six", x.text(0), 3);
        Edge.due("no EVENINGS", x.count(3), 0);
        Edge.due("no SIGHTS", x.count(4), 0);
        Edge.due("no PAIRS that nobody has", x.count(5), 0);
        Edge.due("no IMAGE", x.back(), NONE);
        Edge.due("nothing lost", x.lost(), 0);
        Edge.due("four RULES", x.count(1), 4);
        Edge.due("all PAIRS agree", x.agree(), 7);
        Edge.due("no fourth PERSON", Edge.throwing(x, 3, 0), 1);
        for (int person = 0; person < 3; person++) {
            Edge.due("has its own", x.person(person, 5), person);
            Edge.due("has no RULE", x.person(person, 6), NONE);
            Edge.due("its PAIR is with it", x.pair(person, 2), person);
        }
        Edge.due("WORTH as told", x.pair(1, 1), 7);
        Edge.due("a RULE of before: w-60 of 50 and 7 and 50", x.rule(0, 3), true);
        Edge.due("by it", x.tried(0, 7, 12, 0), NONE);
        x.rule(0, 2);
        Edge.due("w-40 of 50 and 7 and 50", x.tried(0, 7, 12, 0), 0);
    }

    private static void people(String text, int fault) {
        BestPair x = new BestPair();
        Check.tape(x, text);
        Edge.due("fault(0) of " + text, x.fault(0), fault);
        Edge.due("text(0) of " + text + " is taken", x.text(0) != NONE, fault == NONE);
    }

    private static void rule(String text, int fault) {
        BestPair x = new BestPair();
        Check.tape(x, text);
        Edge.due("fault(1) of " + text, x.fault(1), fault);
        Edge.due("text(1) of " + text, x.text(1), fault == NONE ? 0 : NONE);
    }

    private static void peopleTexts() {
        Edge.of("PERSONS with ; between (2 .. 6)", 4, 5);
        people("", 0);
        people("p", 1);
        people("p;p", NONE);
        people("p;p;p;p;p", NONE);
        people("p;p;p;p;p;p", NONE);
        people("p;p;p;p;p;p;p", 11);
        people("p;p;p;p;p;p;p;p", 11);
        people("pp", 1);
        people(";p;p", 0);

        Edge.of("p, then ITEMS, none or more", 4, 5);
        people("p;pj1", NONE);
        people("pg1w2;pj1", NONE);
        people("ps40g1w1f40o1m1j1;pj1m1o1f40w1g1s40", NONE);
        people("s40;p", 0);
        people("p;s40", 2);

        Edge.of("a letter, each once at most in a PERSON", 4, 5);
        for (int k = 0; k < 7; k++) {
            char letter = "sgwfomj".charAt(k);
            String number = letter == 's' || letter == 'f' ? "40" : "4";
            int at = 2 + number.length();
            people("p" + letter + number + ";p" + letter + number, NONE);
            people("p" + letter + number + letter + number + ";p", at);
            people("p" + letter + number + letter, at);
        }
        people("ps40g1w1f40o1m1j1s40;p", 17);

        Edge.of("a number (one or two digits)", 4, 5);
        people("pw;p", 2);
        people("pw", 2);
        people("pw1;p", NONE);
        people("pw11;p", NONE);
        people("pw01;p", NONE);
        people("pw011;p", 4);
        people("pw111;p", 4);
        people("pw1111;p", 4);
    }

    private static void items() {
        item('s', 20, 50, 40, "s SIZE (20 .. 50; 40 without)");
        item('g', 0, 9, 1, "g GIVE (0 .. 9; 1)");
        item('w', 0, 99, 50, "w WORTH of the pair it comes in (0 .. 99; 50)");
        item('f', 20, 50, 40, "f the size of that pair (20 .. 50; 40)");
        item('o', 0, 99, 10, "o WORTH of its old pair (0 .. 99; 10)");
        item('m', 0, 9, 1, "m MILES (0 .. 9; 1)");
        item('j', 0, 9, 1, "j JOY (0 .. 9; 1)");
    }

    private static void item(char letter, int least, int most, int without, String words) {
        Edge.of(words, 4, 5, 6, 7);
        Edge.due("without", itemOf("p;p", letter), without);
        for (int value : new int[] {least, least + 1, most - 1, most}) {
            Edge.due("" + letter + value, itemOf("p;p" + letter + value, letter), value);
            people("p" + letter + value + ";p", NONE);
        }
        if (least > 0) {
            people("p" + letter + (least - 1) + ";p", 3);
            people("p;p" + letter + (least - 1), 5);
            people("p" + letter + "0;p", 2);
            people("p" + letter + "00;p", 3);
        }
        people("p" + letter + (most + 1) + ";p", most == 99 ? 4 : 3);
        people("p;p" + letter + (most + 1), most == 99 ? 6 : 5);
        people("p;p" + letter + "99", most == 99 ? NONE : 5);
    }

    /** What PERSON 1 has of an item; PERSON 0 has what is without. */
    private static int itemOf(String text, char letter) {
        BestPair x = Check.people(text);
        switch (letter) {
            case 's':
                return x.person(1, 0);
            case 'g':
                return x.person(1, 1);
            case 'm':
                return x.person(1, 2);
            case 'j':
                return x.person(1, 3);
            case 'o':
                return x.person(1, 4);
            case 'f':
                return x.pair(1, 0);
            default:
                return x.pair(1, 1);
        }
    }

    private static void ruleTexts() {
        Edge.of("CLAUSES with ; between, one at least: y, : , perhaps CONDITION ?, then SUM.", 4, 5);
        rule("", 0);
        rule("y", 1);
        rule("y:", 2);
        rule("y:1", NONE);
        rule("y:1;", 4);
        rule("y:1;y", 5);
        rule("y:1;y:1", NONE);
        rule("y:1;;y:1", 4);
        rule(";y:1", 0);
        rule("y1", 1);
        rule(":1", 0);
        rule("y:?1", 2);
        rule("y:w?1", 3);
        rule("y:w=1?1", NONE);
        rule("y:w=1?", 6);
        rule("y:w=1", 5);
        rule("y:w=1;y:1", 5);
        rule("y:w=1?1?1", 7);
        rule("y:" + "1;y:".repeat(39) + "1", NONE);
        rule("y:" + "1;y:".repeat(39) + "12", NONE);

        Edge.of("ATOM: a number (1 to 4 digits), a letter (w f s o n p), [ SUM ].", 4, 5);
        rule("y:1", NONE);
        rule("y:12", NONE);
        rule("y:1234", NONE);
        rule("y:9999", NONE);
        rule("y:0000", NONE);
        rule("y:12345", 6);
        rule("y:00001", 6);
        for (char letter = 'a'; letter <= 'z'; letter++) {
            rule("y:" + letter, "wfsonp".indexOf(letter) < 0 ? 2 : NONE);
            rule("y:" + Character.toUpperCase(letter), 2);
        }
        rule("y:[w]", NONE);
        rule("y:[]", 3);
        rule("y:[w", 4);
        rule("y:w]", 3);
        rule("y:[w)", 4);
        rule("y:(w)", 4);

        Edge.of("SUM: TERMS with + or - between; TERM: ATOMS with * or / between", 4, 5);
        for (char sign : "+-*/".toCharArray()) {
            rule("y:1" + sign + "1", NONE);
            rule("y:1" + sign, 4);
            rule("y:" + sign + "1", 2);
            rule("y:1" + sign + sign + "1", 4);
        }
        rule("y:1 1", 4);
    }

    private static void conditions() {
        Edge.of("CONDITION: TRUTHS with | between; TRUTH: UNITS with & between", 4, 5);
        for (char sign : "|&".toCharArray()) {
            rule("y:w=1" + sign + "f=1?1", NONE);
            rule("y:w=1" + sign + "?1", 6);
            rule("y:" + sign + "w=1?1", 2);
            rule("y:w=1" + sign + sign + "f=1?1", 6);
            rule("y:w" + sign + "f=1?1", 3);
            rule("y:w=1" + sign + "f?1", 7);
        }

        Edge.of("UNIT: ! UNIT, ( CONDITION ), or SUM, one of = < >, SUM.", 4, 5);
        for (char sign : "=<>".toCharArray()) {
            rule("y:w" + sign + "1?1", NONE);
            rule("y:w" + sign + "?1", 4);
            rule("y:" + sign + "1?1", 2);
            rule("y:w" + sign + "=1?1", 4);
            rule("y:w" + sign + "1" + sign + "1?1", 5);
        }
        rule("y:()?1", 3);
        rule("y:(w=1?1", 6);
        rule("y:w=1)?1", 5);
        rule("y:!?1", 3);
        rule("y:w=!1?1", 4);
        rule("y:w=(1)?1", 4);

        truths();

        Edge.of("(A CLAUSE that goes on with ! or ( behind its : has a CONDITION.)", 4, 5);
        rule("y:!w=1", 6);
        rule("y:!w=1?1", NONE);
        rule("y:!w", 4);
        rule("y:(w=1)", 7);
        rule("y:(w=1)?1", NONE);
        rule("y:(w)?1", 4);
        rule("y:(w+1)*2", 6);
        rule("y:[w+1]*2", NONE);
        rule("y: (w+1)*2", 7);
        rule("y:1;y:(1)", 8);
    }

    private static void truths() {
        Edge.of("CONDITION: TRUTHS with | between; TRUTH: UNITS with & between", 9, 10);
        holds("1=1|1=1");
        holds("1=1|1=2");
        holds("1=2|1=1");
        holds("1=2|1=2|1=1");
        holds("1=1&1=1&1=1");
        holds("1=1|1=1&1=2");
        holds("1=2&1=1|1=1");
        holds("!(1=2|1=2)");
        holds("!(1=1&1=2)");
        holds("!(1=2&1=1)");
        holds("!(1=2&1=2)");
        holds("!((1=1|1=1)&1=2)");
        holds("!1=2&1=1");
        holds("!!1=1");
        holds("1<2&2>1");
        holds("!1<1&!1>1");
        holds("!2<1&!1>2&!1=2");
    }

    private static void depths() {
        Edge.of("At most six of ( [ ! within one another.", 4, 5);
        for (int many = 5; many <= 7; many++) {
            int fault = many > 6 ? 8 : NONE;
            rule("y:" + "[".repeat(many) + "1" + "]".repeat(many), fault);
            rule("y:" + "(".repeat(many) + "w=1" + ")".repeat(many) + "?1", fault);
            rule("y:" + "!".repeat(many) + "w=1?1", fault);
        }
        for (int many = 5; many <= 7; many++) {
            String open = "[".repeat(many) + "1" + "]".repeat(many);
            String not = "!".repeat(many) + "w=1";
            rule("y:w=" + open + "?1", many > 6 ? 10 : NONE);
            rule("y:" + open + "=1?1", many > 6 ? 8 : NONE);
            rule("y:w=1?" + open, many > 6 ? 12 : NONE);
            rule("y:!w=1?" + open, many > 6 ? 13 : NONE);
            rule("y:w=1&" + not + "?1", many > 6 ? 12 : NONE);
            rule("y:w=1|" + not + "?1", many > 6 ? 12 : NONE);
            rule("y:(w=1)|" + not + "?1", many > 6 ? 14 : NONE);
            rule("y:1+2*" + open, many > 6 ? 12 : NONE);
            rule("y:1;y:" + open, many > 6 ? 12 : NONE);
        }
        rule("y:!(!(![1]=1))?1", NONE);
        rule("y:!(!(![[1]]=1))?1", 8);
        rule("y:!(!(!!w=1))?1", NONE);
        rule("y:!(!(!!!w=1))?1", 8);
        rule("y:((((([[1]]=1)))))?1", 8);
        rule("y:(((((1=[1])))))?1", NONE);
        rule("y:(((((1=[[1]])))))?1", 10);
        rule("y:[1]+[1]+[1]+[1]+[1]+[1]+[1]+[1]", NONE);
        rule("y:!w=1&!w=1&!w=1&!w=1&!w=1&!w=1&!w=1?1", NONE);
        rule("y:!!!!!!w=1&!!!!!!w=1|(((((([1]=1", 28);
        rule("y:!!!!!!w=1?[[[[[[1]]]]]];y:[[[[[[[1", 34);
        rule("y:[[[[[[1]]]]]]*[[[[[[1]]]]]]", NONE);
        rule("y:[[[[[[1]]]]]+[1]]", NONE);
        rule("y:[[[[[[1]+[1]]]]]]", NONE);
        rule("y:[[[[[[1+[1]]]]]]]", 10);
    }

    private static void blanks() {
        Edge.of("Blanks (32) may stand between all signs of both, not within numbers.", 4, 5);
        everyGap(0, "ps20g1w99;pf50o12m0j9;p");
        everyGap(1, "y:!(w=12|f<2)&s>3?[o+n]*p/2-1234;y:7");
        people(" p ; p ", NONE);
        people("  ", 2);
        rule("  ", 2);
        rule(" ", 1);
        for (char sign : new char[] {1, 9, 10, 13, 31, 33, 127, 160, 255}) {
            people("p" + sign + ";p", 1);
            people(sign + "p;p", 0);
            people("p;p" + sign, 3);
            rule("y:" + sign + "1", sign == 33 ? 4 : 2);
            rule("y:1" + sign, 3);
        }
        people("pw1 2;p", 4);
        people("pw1 ;p", NONE);
        rule("y:1 2", 4);
        rule("y:1 ", NONE);
    }

    /** A blank, or three, at each place of a text; a number that is parted goes on wrongly. */
    private static void everyGap(int sort, String text) {
        for (int at = 0; at <= text.length(); at++) {
            boolean within = at > 0 && at < text.length() && isDigit(text, at - 1) && isDigit(text, at);
            // Of SIZE and size the first digit alone is out of bounds already.
            boolean early = within && "sf".indexOf(text.charAt(at - 2)) >= 0 && sort == 0;
            for (int many = 1; many <= 3; many++) {
                String parted = text.substring(0, at) + " ".repeat(many) + text.substring(at);
                int fault = !within ? NONE : early ? at - 1 : at + many;
                Edge.due("fault(" + sort + ") of " + parted, Check.fault(sort, parted), fault);
            }
        }
    }

    private static boolean isDigit(String text, int at) {
        return Character.isDigit(text.charAt(at));
    }

    private static void faultPlaces() {
        Edge.of("FAULT: the first byte at which no such TEXT can go on (the length, if it ends too early)", 4);
        everyEnd(0, "p;pg1w99o12;pm0j9", "p;p", "p;pg1", "p;pg1w9", "p;pg1w99", "p;pg1w99o1", "p;pg1w99o12",
                "p;pg1w99o12;p", "p;pg1w99o12;pm0");
        everyEnd(1, "y:!(w=1|f<2)&s>3?[o+n]*p/20;y:7", "y:!(w=1|f<2)&s>3?[o+n]", "y:!(w=1|f<2)&s>3?[o+n]*p",
                "y:!(w=1|f<2)&s>3?[o+n]*p/2", "y:!(w=1|f<2)&s>3?[o+n]*p/20");
        people("p;px;y", 3);
        people("x;y", 0);
        rule("y:1x;x", 3);

        Edge.of("a number out of bounds is wrong at its last digit", 4);
        people("ps19;p", 3);
        people("ps51;p", 3);
        people("pg10;p", 3);
        people("ps9;p", 2);
        people("ps09;p", 3);
        people("p;pg99w1", 5);
        people("ps 51 ;p", 4);
        people("ps51", 3);
        people("ps51x", 3);

        Edge.of("a third digit (whatever the two ahead of it; a fifth one in a RULE) itself", 4);
        people("ps190;p", 4);
        people("ps200;p", 4);
        people("ps510;p", 4);
        people("pg100;p", 4);
        people("pg010;p", 4);
        people("pw990;p", 4);
        people("pw99 0;p", 5);
        people("p;pw001", 6);
        rule("y:99999", 6);
        rule("y:w=1?00000", 10);
        rule("y:1+[12345]", 9);
        rule("y:1234 5", 7);

        Edge.of("a letter that was there", 4);
        people("pw1w2;p", 3);
        people("pw1w", 3);
        people("pw1g1 w", 6);
        people("pw1;pw1w1", 7);

        Edge.of("the ; ahead of a seventh PERSON", 4);
        people("p;p;p;p;p;p;", 11);
        people("p;p;p;p;p;p;x", 11);
        people("p;p;p;p;p;p  ;p", 13);
        people("p;p;p;p;p;pg1;p", 13);

        Edge.of("a seventh of ( [ ! at it.", 4);
        rule("y:!!!!!!!", 8);
        rule("y:((((((! ", 8);
        rule("y:!!!!!!(w=1)?1", 8);
        rule("y:(((((( [", 9);
        rule("y:1=1&!!!!!!!w=1?1", 12);
    }

    /** Cut anywhere a TEXT ends too early, unless what is left is one itself. */
    private static void everyEnd(int sort, String text, String... whole) {
        for (int length = 0; length < text.length(); length++) {
            String cut = text.substring(0, length);
            int fault = java.util.List.of(whole).contains(cut) ? NONE : length;
            Edge.due("fault(" + sort + ") of " + cut, Check.fault(sort, cut), fault);
        }
        Edge.due("the whole " + text, Check.fault(sort, text), NONE);
    }

    /** Whether one alone takes its own PAIR by a RULE, or goes BARE. */
    private static boolean isTaken(String rule) {
        BestPair x = Check.people("p;p");
        x.rule(0, Check.rule(x, rule));
        return x.tried(0, 1, 0, 0) == 0;
    }

    private static void holds(String condition) {
        Edge.due(condition, isTaken("y:" + condition + "?1"), true);
        Edge.due("not " + condition, isTaken("y:!(" + condition + ")?1"), false);
    }

    private static void reckoning() {
        Edge.of("Behind each sign numbers are within -1,000,000 .. 1,000,000", 9, 10);
        holds("999*1001<1000*1000");
        holds("999*1001+1=1000*1000");
        holds("999*1001+2=1000*1000");
        holds("1000*1000+1-1=999*1001");
        holds("1000*1000+9999-1=999*1001");
        holds("1001*1000=1000*1000");
        holds("9999*9999=1000*1000");
        holds("9999*9999*9999=1000*1000");
        holds("[9999*9999]*[9999*9999]=1000*1000");
        holds("1000*1000-[0-1]=1000*1000");
        holds("1000*1000-[0-1]-1=999*1001");
        holds("0-999*1001>0-1000*1000");
        holds("0-999*1001-1=0-1000*1000");
        holds("0-999*1001-2=0-1000*1000");
        holds("0-1000*1000-1+1=0-999*1001");
        holds("0-1000*1000+[0-1]+1=0-999*1001");
        holds("[0-1001]*1000=0-1000*1000");
        holds("[0-9999]*9999*9999+1=0-999*1001");
        holds("[0-9999*9999]*[9999*9999]+1=0-999*1001");
        holds("[0-9999*9999]*[0-9999*9999]-1=999*1001");
        holds("1000*1000/1=1000*1000");
        holds("9999*9999/2=500*1000");
        Edge.due("a WORTH of 1,000,000", isTaken("y:1000*1000"), true);
        Edge.due("a WORTH of -1,000,000", isTaken("y:0-1000*1000"), false);

        Edge.of("/ cuts towards 0, by 0 gives 0.", 9, 10);
        holds("7/2=3");
        holds("8/2=4");
        holds("[0-7]/2=0-3");
        holds("7/[0-2]=0-3");
        holds("[0-7]/[0-2]=3");
        holds("1/2=0");
        holds("[0-1]/2=0");
        holds("1/0=0");
        holds("0/0=0");
        holds("[0-5]/[3-3]=0");
        holds("5/0+7=7");
        holds("5/0*7=0");
        holds("0/5=0");
        holds("6/1=6");
    }

    private static void firstClauses() {
        Edge.of("WORTH of a RULE: the SUM of the first CLAUSE whose CONDITION holds (or has none), 0 without.", 9, 10);
        Edge.due("the first holds", isTaken("y:1=1?1;y:1=1?0"), true);
        Edge.due("the first holds", isTaken("y:1=1?0;y:1=1?1"), false);
        Edge.due("the last holds", isTaken("y:1=2?0;y:1=3?0;y:1=1?1"), true);
        Edge.due("none before one that holds", isTaken("y:1;y:1=1?0"), true);
        Edge.due("none before one that holds", isTaken("y:0;y:1=1?1"), false);
        Edge.due("none holds", isTaken("y:1=2?1;y:1=3?1"), false);
        Edge.due("one holds not, one has none", isTaken("y:1=2?0;y:1"), true);
    }

    private static void calls() {
        Edge.of("An object is used for at most 512 calls after it has been made", 1, 10);
        BestPair x = new BestPair();
        x.feed(0x703b7000, 0, 0, 0, 0);
        x.text(0);
        for (int call = 3; call < 511; call++) {
            x.evening(call % 4, 3, 10);
        }
        Edge.due("the 511th call", x.evening(3, 3, 1), 30);
        Edge.due("the 512th call", x.pair(1, 2), 1);
    }
}
