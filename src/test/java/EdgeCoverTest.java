import java.util.regex.Matcher;
import java.util.regex.Pattern;

/** Whether each sentence of the document that names a boundary has its test among the Edge tests. */
public final class EdgeCoverTest {
    /** Words that tell of a boundary, in the document's part "Terms". */
    private static final Pattern BOUNDARY = Pattern.compile("\\d \\.\\. [\\dRn]|at most|at least|of several|one or two|1 to 4"
            + "|\\(BARE 0|BARE, if|NONE|none|not 0|above 0|out of bounds|too early|going round|cuts? |, cut|first \\d"
            + "|refused|without sign|whatever|lowest|the least|fewest|within|by 0");
    private static final Pattern PROMISE = Pattern.compile("## Promise (\\d+): [^`]*`[^`]*`: (.*?)(?= ## |$)");
    private static final Pattern REFUSAL = Pattern.compile("NONE|HIDDEN|False|-2:|Exception:|No PEOPLE");

    public static void main(String[] args) {
        EdgeTextTest.all();
        EdgeEveningTest.all();
        EdgeOrderTest.all();
        EdgeYearTest.all();
        EdgeImageTest.all();
        if (Edge.DOCUMENT.isEmpty()) {
            System.out.println("EdgeCoverTest: there is no document, its words were not looked at");
        } else {
            terms();
            promises();
        }
        Check.end("EdgeCoverTest");
    }

    /** Every boundary word of the Terms stands within words that a test has told. */
    private static void terms() {
        String all = Edge.DOCUMENT;
        String terms = all.substring(Math.max(0, all.indexOf("## Terms")), Math.max(0, all.indexOf("## Promise 1:")));
        Check.due("the Terms are there", terms.length() > 1000, true);
        boolean[] told = new boolean[terms.length()];
        for (String words : Edge.told()) {
            mark(terms, words.substring(words.indexOf(": ") + 2), told);
        }
        Matcher boundary = BOUNDARY.matcher(terms);
        while (boundary.find()) {
            int from = Math.max(0, boundary.start() - 50);
            String near = terms.substring(from, Math.min(terms.length(), boundary.end() + 30));
            boolean covered = told[boundary.start()] && told[boundary.end() - 1];
            Check.due("a test of \"" + boundary.group() + "\" in \"" + near + "\"", covered, true);
        }
    }

    private static void mark(String terms, String words, boolean[] told) {
        for (int at = terms.indexOf(words); at >= 0; at = terms.indexOf(words, at + 1)) {
            for (int k = 0; k < words.length(); k++) {
                told[at + k] = true;
            }
        }
    }

    /** Every sentence of a promise that tells what is refused is told by a test of this promise. */
    private static void promises() {
        Matcher promise = PROMISE.matcher(Edge.DOCUMENT);
        int many = 0;
        while (promise.find()) {
            many++;
            String number = promise.group(1) + ": ";
            boolean any = false;
            for (String sentence : promise.group(2).trim().split("(?<=\\.) (?=[A-Z0-9-])")) {
                boolean told = Edge.told().stream().anyMatch(t -> t.startsWith(number) && t.contains(sentence));
                any |= told;
                if (REFUSAL.matcher(sentence).find()) {
                    Check.due("a test of promise " + number + sentence, told, true);
                }
            }
            Check.due("a test of promise " + number, any, true);
        }
        Check.due("promises", many, 34);
    }
}
