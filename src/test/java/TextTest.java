/** Promises 1 to 5: a new object, feed, end, fault, text. */
public final class TextTest {
    public static void main(String[] args) {
        newObject();
        feedsAndEnds();
        faultsOfPeople();
        faultsOfRules();
        takesTexts();
        Check.end("TextTest");
    }

    private static void newObject() {
        BestPair x = new BestPair();
        for (int what = 0; what <= 5; what++) {
            Check.due("new count(" + what + ")", x.count(what), 0);
        }
        Check.throwsNoSuch(x, 0, 0);
        Check.due("new pair", x.pair(0, 0), -1);
        Check.due("new fits", x.fits(0, 0), -1);
        Check.due("new rule", x.rule(0, -1), false);
        Check.due("new evening", x.evening(0, 1, 0), -1);
        Check.due("new tried", x.tried(0, 1, 0, 0), BestPair.HIDDEN);
        Check.due("new orders", x.orders(0, 1, 0, 0), BestPair.HIDDEN);
        Check.due("new worst", x.worst(0, 1, 0), -1);
        Check.due("new host", x.host(0, 1, 0, 0), -1);
        Check.due("new hide", x.hide(0, 1, 0, 0, 0), -1);
        Check.due("new rests", x.rests(0, 1, 1, -1), -1);
        Check.due("new quiet", x.quiet(1, -1), -1);
        Check.due("new quiet of none", x.quiet(0, -1), -1);
        Check.due("new year", x.year(1, 1), -1);
        Check.due("new likely", x.likely(0, 0, 0), -1);
        Check.due("new cobbler", x.cobbler(0, 1, 0, 1, 0), -1);
        Check.due("new odd", x.odd(2, 10, 2), 1);
        Check.due("new sight", x.sight(0, 0, 40), -1);
        Check.due("new sight in a house", x.sight(0, 10, 40), -1);
        Check.due("new agree", x.agree(), -1);
        Check.due("new been", x.been(0, -1), -1);
        Check.due("new left", x.left(0, 1, 0), -1);
        Check.due("new swap", x.swap(0, 3, 1, 0, 1), BestPair.HIDDEN);
        Check.due("new dream", x.dream(0, 1, -1), BestPair.HIDDEN);
        Check.due("new bring", x.bring(0, 0), -1);
        Check.due("new steady", x.steady(), -1);
        Check.due("new lost", x.lost(), -1);
        Check.due("new envy", x.envy(-1), -1);
        Check.due("new image", x.image(), -1);
        Check.due("new back", x.back(), -1);
        Check.due("new text", x.text(0), -1);
        Check.due("new fault", x.fault(0), 0);
        Check.due("new fault of a rule", x.fault(1), 0);
    }

    private static void feedsAndEnds() {
        BestPair x = new BestPair();
        Check.due("zeros", x.feed(0, 0, 0, 0, 0), 0);
        Check.due("zeros are left out", x.feed(0x70003b00, 0, 0x00700000, 0, 0), 3);
        Check.due("order of bytes", x.fault(0), -1);
        int full = 0x70707070;
        for (int k = 1; k <= 7; k++) {
            Check.due("more", x.feed(full, full, full, full, full), 3 + 20 * k);
        }
        Check.due("up to 160", x.feed(full, full, full, full, 0x70), 160);
        Check.due("161 is too much", x.feed(1, 0, 0, 0, 0), -1);
        Check.due("nothing is changed", x.count(2), 160);
        Check.due("zeros do fit", x.feed(0, 0, 0, 0, 0), 160);
        Check.due("end(161)", x.end(161), false);
        Check.due("end(-1)", x.end(-1), false);
        Check.due("end(160)", x.end(160), true);
        Check.due("end(3)", x.end(3), true);
        Check.due("three", x.count(2), 3);
        Check.due("the first three", x.fault(0), -1);
        Check.due("end(4)", x.end(4), false);
        Check.due("bytes above 127", x.feed(0xff808180, -1, 0, 0, 0), 11);
        Check.due("a byte of 255 is wrong", x.fault(0), 3);
        BestPair y = new BestPair();
        for (int k = 0; k < 7; k++) {
            y.feed(full, full, full, full, full);
        }
        y.feed(full, full, full, full, 0x70700000);
        Check.due("158 and 3 do not fit", y.feed(0x70700070, 0, 0, 0, 0), -1);
        Check.due("158 as before", y.count(2), 158);
        for (int place = 0; place < 5; place++) {
            int[] five = new int[5];
            five[place] = 0x70007070;
            Check.due("nor in word " + place, y.feed(five[0], five[1], five[2], five[3], five[4]), -1);
            five[place] = 0x00700070;
            Check.due("two do, in word " + place, y.feed(five[0], five[1], five[2], five[3], five[4]), 160);
            y.end(158);
        }
    }

    private static void people(String text, int fault) {
        Check.due("fault of people " + text, Check.fault(0, text), fault);
    }

    private static void faultsOfPeople() {
        people("p;p", -1);
        people("p;p;p;p;p;p", -1);
        people(" p s 20 g 0 w 99 f 50 o 0 m 9 j 9 ; p ", -1);
        people("ps50g9w0f20o99m0j0;p", -1);
        people("pg09m00j01;p", -1);
        people("", 0);
        people("   ", 3);
        people("p", 1);
        people("p ", 2);
        people("p;", 2);
        people("p; ", 3);
        people(";p", 0);
        people("p;;p", 2);
        people("p;p;", 4);
        people("pp", 1);
        people("p,p", 1);
        people("ps", 2);
        people("ps;p", 2);
        people("ps ;p", 3);
        people("psg", 2);
        people("ps19;p", 3);
        people("ps51;p", 3);
        people("ps2;p", 2);
        people("ps2", 2);
        people("ps0", 2);
        people("ps4 0;p", 2);
        people("pg4 0;p", 4);
        people("pg10;p", 3);
        people("pm10;p", 3);
        people("pj99;p", 3);
        people("pf51;p", 3);
        people("pf19;p", 3);
        people("pg100;p", 4);
        people("pw100;p", 4);
        people("ps190;p", 4);
        people("ps400;p", 4);
        people("ps40s40;p", 4);
        people("ps40s", 4);
        people("p;pw1g1w1", 7);
        people("p;p;p;p;p;p;p", 11);
        people("p;p;p;p;p;p ; ", 12);
        people("p;p;p;p;p;p,", 11);
        people("p;pS40", 3);
        people("p;p\t", 3);
        people("p;px", 3);
        people("ps40g1w1f40o1m1j1;p", -1);
        people("ps40g1w1f40o1m1j1s40;p", 17);
    }

    private static void rule(String text, int fault) {
        Check.due("fault of a rule " + text, Check.fault(1, text), fault);
    }

    private static void faultsOfRules() {
        rule("y:w", -1);
        rule(" y : w ", -1);
        rule("y:1;y:2;y:w+f-s*o/n+p", -1);
        rule("y:w=1?2", -1);
        rule("y:w=1&f<2|s>3?2;y:1", -1);
        rule("y:!w=1?2", -1);
        rule("y:(w=1)?2", -1);
        rule("y:!(!w=1|(f=2&s=3))?[[w]]", -1);
        rule("y:[w+1]*2=[3]?9999", -1);
        rule("", 0);
        rule("y", 1);
        rule("y:", 2);
        rule("y:w;", 4);
        rule("y:w;w", 4);
        rule("y:?", 2);
        rule("y:w?1", 3);
        rule("y:w=1", 5);
        rule("y:w=1;y:1", 5);
        rule("y:w=1?", 6);
        rule("y:w=1?2?3", 7);
        rule("y:w=1=1?2", 5);
        rule("y:(w)?1", 4);
        rule("y:(w=1", 6);
        rule("y:(w=1)", 7);
        rule("y:(w=1)+1?1", 7);
        rule("y:(w=1)=1?1", 7);
        rule("y:[w=1]?1", 4);
        rule("y:[w", 4);
        rule("y:[w)", 4);
        rule("y:w=(1)?1", 4);
        rule("y:w+!1", 4);
        rule("y:w=1&?1", 6);
        rule("y:w=1|1?1", 7);
        rule("y:!w?1", 4);
        rule("y:-1", 2);
        rule("y:1 2", 4);
        rule("y:1234", -1);
        rule("y:12345", 6);
        rule("y:0000", -1);
        rule("y:00000", 6);
        rule("y:12a", 4);
        rule("y:a", 2);
        rule("y:ww", 3);
        rule("y:w]", 3);
        rule("y:w=1)?1", 5);
        rule("x:w", 0);
        rule("y;w", 1);
        rule("y:[[[[[[1]]]]]]", -1);
        rule("y:[[[[[[[1]]]]]]]", 8);
        rule("y:((((((w=1))))))?1", -1);
        rule("y:(((((((w=1)))))))?1", 8);
        rule("y:!!!!!!w=1?1", -1);
        rule("y:!!!!!!!w=1?1", 8);
        rule("y:!(!(!(w=1)))?1", -1);
        rule("y:!(!(!([1]=1)))?1", 8);
        rule("y:!!!!!![1]=1?1", 8);
        rule("y:!!!!!w=[1]?[[[[[[1]]]]]]", -1);
        rule("y:!!!!!!w=1&!!!!!!w=1|[[[[[[1]]]]]]=1?1", -1);
        rule("y:!!!!!!w=1?[[[[[[[1]]]]]]]", 18);
        rule("y:" + "w+".repeat(78) + "10", -1);
        rule("y:" + "w+".repeat(79), 160);
        rule("y:1;".repeat(39) + " y:1", -1);
        rule("y:1;".repeat(40), 160);
        rule("y:!w=1" + "&w=1".repeat(37) + "?100  ", -1);
        rule(" ".repeat(160), 160);
    }

    private static void takesTexts() {
        BestPair x = Check.people("p;ps30;p");
        Check.due("the TAPE is empty", x.count(2), 0);
        Check.due("people", x.count(0), 3);
        Check.due("no such sort", x.fault(2), -2);
        Check.due("no such sort", x.fault(-1), -2);
        Check.tape(x, "p;ps10");
        Check.due("a FAULT", x.text(0), -1);
        Check.due("the TAPE stays", x.count(2), 6);
        Check.due("people stay", x.count(0), 3);
        Check.due("no such sort", x.text(2), -1);
        Check.due("no such sort", x.text(-1), -1);
        Check.due("no RULE", x.text(1), -1);
        for (int k = 0; k < 4; k++) {
            Check.due("rule " + k, Check.rule(x, "y:" + k), k);
            Check.due("rules", x.count(1), k + 1);
            Check.due("the TAPE is empty", x.count(2), 0);
        }
        Check.tape(x, "y:1");
        Check.due("a fifth RULE is no FAULT", x.fault(1), -1);
        Check.due("a fifth RULE", x.text(1), -1);
        Check.due("the TAPE stays", x.count(2), 3);
        newPeople(x);
    }

    private static void newPeople(BestPair x) {
        x.rule(1, 2);
        x.evening(0, 7, 12);
        x.sight(0, 10, 40);
        x.image();
        Check.due("two of the others are gone", x.count(3) + x.count(4), 2);
        Check.tape(x, "pw3;pw4");
        Check.due("others", x.text(0), 2);
        Check.due("people", x.count(0), 2);
        Check.due("RULES stay", x.count(1), 4);
        Check.due("no RULE of a PERSON", x.person(1, 6), -1);
        Check.due("no DIARY", x.count(3), 0);
        Check.due("no SIGHTS", x.count(4), 0);
        Check.due("no IMAGE", x.back(), -1);
        Check.due("its own PAIR", x.person(1, 5), 1);
        Check.due("WORTH", x.pair(1, 1), 4);
        Check.due("nothing lost", x.lost(), 0);
        Check.due("all PAIRS are had", x.count(5), 0);
        Check.throwsNoSuch(x, 2, 0);
        Check.due("a RULE of before", x.rule(0, 3), true);
    }
}
