import java.util.NoSuchElementException;

/** What all tests share: answers that are due, texts put on a TAPE, the end of a test. */
final class Check {
    private static int wrong = 0;
    private static int asked = 0;

    private Check() {
    }

    static void due(String call, long got, long want) {
        asked++;
        if (got != want) {
            wrong++;
            if (wrong <= 50) {
                System.out.println(call + " answered " + got + ", due is " + want);
            }
        }
    }

    static void due(String call, boolean got, boolean want) {
        due(call, got ? 1 : 0, want ? 1 : 0);
    }

    static void throwsNoSuch(BestPair x, int person, int what) {
        boolean thrown = false;
        try {
            x.person(person, what);
        } catch (NoSuchElementException e) {
            thrown = true;
        }
        due("person(" + person + ", " + what + ") throws", thrown, true);
    }

    /** The TAPE is this text alone. */
    static void tape(BestPair x, String text) {
        x.end(0);
        for (int at = 0; at < text.length(); at += 20) {
            x.feed(word(text, at), word(text, at + 4), word(text, at + 8), word(text, at + 12), word(text, at + 16));
        }
    }

    static int word(String text, int at) {
        int word = 0;
        for (int k = 0; k < 4; k++) {
            int sign = at + k < text.length() ? text.charAt(at + k) : 0;
            word = word << 8 | sign;
        }
        return word;
    }

    static BestPair people(String text) {
        BestPair x = new BestPair();
        tape(x, text);
        due("fault(0) of " + text, x.fault(0), -1);
        due("text(0) of " + text, x.text(0), text.chars().filter(c -> c == ';').count() + 1);
        return x;
    }

    /** A RULE more; its number. */
    static int rule(BestPair x, String text) {
        tape(x, text);
        due("fault(1) of " + text, x.fault(1), -1);
        return x.text(1);
    }

    static int fault(int sort, String text) {
        BestPair x = new BestPair();
        tape(x, text);
        return x.fault(sort);
    }

    static void end(String test) {
        System.out.println(test + ": " + asked + " answers, " + wrong + " wrong");
        if (wrong != 0 || asked == 0) {
            System.exit(1);
        }
    }
}
