import java.util.ArrayList;
import java.util.HashSet;
import java.util.List;
import java.util.Random;
import java.util.Set;
import java.util.regex.Matcher;
import java.util.regex.Pattern;

/** Promise 4: the FAULT of texts with a change by chance, compared with a grammar's. */
public final class FaultTest {
    private static final int TEXTS = 12000;
    private static final String SIGNS = "p;sgwfomjy:?|&!()[]=<>+-*/0123456789n  x";

    private static final Earley RULES = ruleGrammar();
    private static final Earley PEOPLE = peopleGrammar();

    public static void main(String[] args) {
        Random random = new Random(7);
        for (int k = 0; k < TEXTS; k++) {
            String rule = changed(random, ModelTest.blanks(random, deepRule(random)));
            Check.due("fault(1) of " + rule, Check.fault(1, rule), ruleFault(rule));
            String people = ModelTest.peopleText(random, 2 + random.nextInt(5));
            people = changed(random, ModelTest.blanks(random, people));
            Check.due("fault(0) of " + people, Check.fault(0, people), peopleFault(people));
        }
        Check.end("FaultTest");
    }

    /** Some with brackets so deep that a few go beyond what is allowed. */
    private static String deepRule(Random random) {
        String text = ModelTest.ruleText(random);
        int more = random.nextInt(3) == 0 ? random.nextInt(8) : 0;
        for (int k = 0; k < more && text.length() < 150; k++) {
            int at = random.nextInt(text.length());
            char c = text.charAt(at);
            if ("wfsonp".indexOf(c) >= 0) {
                text = text.substring(0, at) + "[" + c + "]" + text.substring(at + 1);
            } else if (c == '(' || c == '!') {
                text = text.substring(0, at) + "!" + text.substring(at);
            }
        }
        return text;
    }

    private static String changed(Random random, String text) {
        StringBuilder with = new StringBuilder(text);
        int changes = random.nextInt(3);
        for (int k = 0; k < changes && with.length() > 0; k++) {
            int at = random.nextInt(with.length());
            char sign = SIGNS.charAt(random.nextInt(SIGNS.length()));
            switch (random.nextInt(4)) {
                case 0 -> with.setCharAt(at, sign);
                case 1 -> with.deleteCharAt(at);
                case 2 -> with.insert(at, sign);
                default -> with.setLength(at);
            }
        }
        with.setLength(Math.min(160, with.length()));
        return with.toString();
    }

    private static Earley ruleGrammar() {
        Earley g = new Earley();
        g.rule("Text", "Clause // Clause ; Text");
        g.rule("Clause", "y : Sum0 // y : Cond0 ? Sum0");
        g.rule("Number", "D // D d // D d d // D d d d");
        for (int k = 0; k <= 6; k++) {
            g.rule("Cond" + k, "Truth" + k + " // Truth" + k + " | Cond" + k);
            g.rule("Truth" + k, "Unit" + k + " // Unit" + k + " & Truth" + k);
            g.rule("Sum" + k, "Term" + k + " // Term" + k + " + Sum" + k + " // Term" + k + " - Sum" + k);
            g.rule("Term" + k, "Atom" + k + " // Atom" + k + " * Term" + k + " // Atom" + k + " / Term" + k);
            g.rule("Atom" + k, "Number // w // f // s // o // n // p");
            for (String sign : List.of("=", "<", ">")) {
                g.rule("Unit" + k, "Sum" + k + " " + sign + " Sum" + k);
            }
            if (k < 6) {
                g.rule("Unit" + k, "! Unit" + (k + 1) + " // ( Cond" + (k + 1) + " )");
                g.rule("Atom" + k, "[ Sum" + (k + 1) + " ]");
            }
        }
        return g;
    }

    private static Earley peopleGrammar() {
        Earley g = new Earley();
        StringBuilder row = new StringBuilder("Person");
        for (int k = 2; k <= 6; k++) {
            row.append(" ; Person");
            g.rule("Text", row.toString());
        }
        g.rule("Person", "p // p Items");
        g.rule("Items", "Item // Item Items");
        g.rule("Number", "D // D d");
        for (String letter : "sgwfomj".split("")) {
            g.rule("Item", letter + " Number");
        }
        return g;
    }

    /** The FAULT by a grammar of signs without blanks: D starts a number, d goes on with it. */
    private static int byGrammar(Earley grammar, String text) {
        List<String> signs = new ArrayList<>();
        List<Integer> places = new ArrayList<>();
        for (int k = 0; k < text.length(); k++) {
            char c = text.charAt(k);
            if (c != ' ') {
                boolean goesOn = k > 0 && Character.isDigit(text.charAt(k - 1));
                signs.add(Character.isDigit(c) ? goesOn ? "d" : "D" : String.valueOf(c));
                places.add(k);
            }
        }
        places.add(text.length());
        int fault = grammar.fault("Text", signs);
        return fault < 0 ? -1 : places.get(fault);
    }

    private static int ruleFault(String text) {
        return byGrammar(RULES, text);
    }

    private static int peopleFault(String text) {
        int fault = byGrammar(PEOPLE, text);
        int end = fault < 0 ? text.length() : fault;
        Set<String> seen = new HashSet<>();
        Matcher m = Pattern.compile("p|([sgwfomj])(?: *([0-9]+))?").matcher(text);
        while (m.find()) {
            if (m.group(1) == null) {
                seen.clear();
            } else if (m.start() < end && !seen.add(m.group(1))) {
                return m.start();
            } else if (m.group(2) != null && m.group(2).length() <= 2 && m.end() - 1 < end
                    && !isWithin(m.group(1), Integer.parseInt(m.group(2)))) {
                return m.end() - 1;
            }
        }
        return fault;
    }

    private static boolean isWithin(String letter, int value) {
        return switch (letter) {
            case "s", "f" -> value >= 20 && value <= 50;
            case "g", "m", "j" -> value <= 9;
            default -> true;
        };
    }
}
