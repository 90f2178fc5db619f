import java.io.IOException;
import java.nio.charset.StandardCharsets;
import java.nio.file.Files;
import java.nio.file.Path;
import java.util.LinkedHashSet;
import java.util.NoSuchElementException;
import java.util.Set;
import java.util.function.Supplier;
import java.util.function.ToLongFunction;

/**
 * Tests of single sentences of ../shared/DOC.md, each named by its promises and its own words; scenes in
 * which calls are refused, and all that can be seen of an object.
 */
final class Edge {
    static final int BIG = Integer.MAX_VALUE;
    static final int SMALL = Integer.MIN_VALUE;

    /** 0 can wear all PAIRS, 1 the PAIRS 1 and 2, 2 its own alone. */
    static final String THREE = "ps40g2w50f40o10m3j2;ps41g1w70f41o90m0j0;ps42g0w20f42o5m9j9";
    /** Each can wear its own PAIR alone. */
    static final String APART = "ps40g0f40;ps41g0f41;ps42g0f42;ps43g0f43;ps44g0f44;ps45g0f45";
    static final String ALIKE = "p;p;p;p;p;p";

    static final String DOCUMENT = readDocument();

    private static final Set<String> TOLD = new LinkedHashSet<>();
    private static final int VIEWS = 4;
    private static String here = "";

    private Edge() {
    }

    /** What is asked from here on belongs to these words of the document and to these promises. */
    static void of(String words, int... promises) {
        StringBuilder name = new StringBuilder("promise");
        for (int promise : promises) {
            name.append(' ').append(promise);
            TOLD.add(promise + ": " + words);
        }
        here = name.append(", \"").append(words).append("\": ").toString();
        if (!DOCUMENT.isEmpty()) {
            Check.due(here + "stands in the document", DOCUMENT.contains(words), true);
        }
    }

    /** "promise: words", for all that of() has told. */
    static Set<String> told() {
        return TOLD;
    }

    /** The document, with one blank for all that parts its words; empty, if it is not there. */
    private static String readDocument() {
        try {
            String all = Files.readString(Path.of("../shared/DOC.md"), StandardCharsets.UTF_8);
            return all.replaceAll("```(text)?", " ").replaceAll("\\s+", " ");
        } catch (IOException e) {
            return "";
        }
    }

    static void due(String call, long got, long want) {
        Check.due(here + call, got, want);
    }

    static void due(String call, boolean got, boolean want) {
        Check.due(here + call, got, want);
    }

    /** A call that is refused, or only asks: it answers this, and all is as without it. */
    static void still(Supplier<BestPair> scene, String call, ToLongFunction<BestPair> ask, long want) {
        for (int view = 0; view < VIEWS; view++) {
            BestPair asked = scene.get();
            due(call, ask.applyAsLong(asked), want);
            due(call + " changes nothing", view(asked, view).equals(view(scene.get(), view)), true);
        }
    }

    /** The same in all scenes. */
    static void everywhere(String call, ToLongFunction<BestPair> ask, long want) {
        still(BestPair::new, call + " of a new one", ask, want);
        still(Edge::busy, call, ask, want);
        still(Edge::full, call + " when all is full", ask, want);
    }

    /** 1, if person() throws what it should. */
    static long throwing(BestPair x, int person, int what) {
        try {
            x.person(person, what);
        } catch (NoSuchElementException e) {
            return 1;
        }
        return 0;
    }

    static BestPair three() {
        return Check.people(THREE);
    }

    /** Three PEOPLE in the midst of it, with PEOPLE on the TAPE. */
    static BestPair busy() {
        BestPair x = three();
        Check.rule(x, "y:f=2?w");
        Check.rule(x, "y:100-w");
        x.evening(1, 7, 12);
        x.sight(0, 11, 40);
        x.image();
        x.evening(0, 3, 10);
        x.evening(2, 6, 21);
        x.sight(1, 0, 40);
        x.rule(1, 1);
        Check.tape(x, "ps30w3;pg9;pj7f31");
        return x;
    }

    /** Six PEOPLE, four RULES, 30 EVENINGS, 20 SIGHTS, 160 bytes, and an IMAGE. */
    static BestPair full() {
        BestPair x = Check.people("pw90;pw80m2;pw70;ps41w60f41;ps42w50f43;pw40g9f49");
        for (int k = 0; k < 4; k++) {
            Check.rule(x, "y:w-" + 20 * k);
        }
        for (int k = 0; k < 30; k++) {
            x.evening(k % 4, 63, k % 2 == 0 ? 12345 : 543210);
            if (k == 6) {
                x.sight(3, 5, 40);
                x.image();
            }
        }
        for (int k = 1; k < 20; k++) {
            x.sight(k, k % 4 + 10, 40);
        }
        x.rule(0, 3);
        x.rule(5, 0);
        Check.tape(x, "p;pw7;" + " ".repeat(148) + "pm9j2 ");
        return x;
    }

    /** All that can be seen from outside, in four ways; an object is used up by each of them. */
    static String view(BestPair x, int view) {
        StringBuilder text = new StringBuilder();
        switch (view) {
            case 0:
                tellAll(x, text);
                break;
            case 1:
                text.append(x.back());
                tellAll(x, text);
                break;
            case 2:
                tellRules(x, text);
                break;
            default:
                tellTape(x, text);
                break;
        }
        return text.toString();
    }

    private static void tellAll(BestPair x, StringBuilder text) {
        for (int what = 0; what < 6; what++) {
            text.append(' ').append(x.count(what));
        }
        text.append(' ').append(x.fault(0)).append(' ').append(x.fault(1));
        text.append(' ').append(x.agree()).append(' ').append(x.lost());
        for (int k = 0; k < x.count(0); k++) {
            tellPerson(x, k, text);
            for (int i = 0; i < x.count(3); i++) {
                text.append(' ').append(x.been(k, i));
            }
        }
    }

    private static void tellPerson(BestPair x, int person, StringBuilder text) {
        for (int what = 0; what < 7; what++) {
            text.append(' ').append(x.person(person, what));
        }
        for (int what = 0; what < 3; what++) {
            text.append(' ').append(x.pair(person, what));
        }
    }

    /** What each PERSON takes by each RULE, alone and among all. */
    private static void tellRules(BestPair x, StringBuilder text) {
        int many = x.count(0);
        for (int rule = 0; rule < x.count(1); rule++) {
            for (int k = 0; k < many; k++) {
                x.rule(k, rule);
                text.append(' ').append(x.tried(1, 1 << k, k, k));
                text.append(' ').append(x.host(0, (1 << many) - 1, 1, 1));
            }
        }
    }

    /** What the TAPE tells: as PEOPLE or as a RULE, and where it is wrong, if it is cut. */
    private static void tellTape(BestPair x, StringBuilder text) {
        text.append(x.count(2)).append(' ').append(x.fault(0)).append(' ').append(x.fault(1));
        text.append(' ').append(x.text(0));
        for (int k = 0; k < x.count(0); k++) {
            tellPerson(x, k, text);
        }
        text.append(' ').append(x.text(1)).append(' ').append(x.count(2));
        for (int n = x.count(2) - 1; n > 0; n -= 1 + n / 20) {
            text.append(' ').append(x.end(n)).append(x.fault(0)).append(x.fault(1));
        }
    }
}
