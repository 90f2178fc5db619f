import java.util.ArrayList;
import java.util.List;
import java.util.Random;

/** Promises 5 to 34: long runs of calls by chance, each answer compared with the model's. */
public final class ModelTest {
    private static final int RUNS = 600;
    private static final int CALLS = 150;

    private final Random random;
    private final BestPair x = new BestPair();
    private final Model model = new Model();
    private final String run;

    private ModelTest(int seed) {
        random = new Random(seed);
        run = "run " + seed + " ";
    }

    public static void main(String[] args) {
        for (int seed = 0; seed < RUNS; seed++) {
            new ModelTest(seed).play();
        }
        Check.end("ModelTest");
    }

    private int in(int least, int most) {
        return least + random.nextInt(most - least + 1);
    }

    private boolean oneOf(int many) {
        return random.nextInt(many) == 0;
    }

    // ---- texts by chance

    static String peopleText(Random random, int many) {
        StringBuilder text = new StringBuilder();
        int spread = 1 + random.nextInt(5);
        for (int k = 0; k < many; k++) {
            text.append(k == 0 ? "p" : ";p");
            item(random, text, 's', 40, 40 + spread, 6);
            item(random, text, 'g', 0, spread, 6);
            item(random, text, 'w', 0, random.nextInt(3) == 0 ? 3 : 99, 8);
            item(random, text, 'f', 40, Math.min(50, 40 + spread + 2), 6);
            item(random, text, 'o', 0, 99, 4);
            item(random, text, 'm', 0, 9, 4);
            item(random, text, 'j', 0, 9, 4);
        }
        return text.length() > 160 ? peopleText(random, many) : text.toString();
    }

    private static void item(Random random, StringBuilder text, char letter, int least, int most, int ofTen) {
        if (random.nextInt(10) < ofTen) {
            text.append(letter).append(least + random.nextInt(most - least + 1));
        }
    }

    static String ruleText(Random random) {
        StringBuilder text = new StringBuilder();
        int clauses = 1 + random.nextInt(3);
        for (int k = 0; k < clauses; k++) {
            text.append(k == 0 ? "y:" : ";y:");
            if (random.nextInt(3) > 0) {
                condition(random, text, 0);
                text.append('?');
            }
            sum(random, text, 0);
        }
        return text.length() > 160 ? ruleText(random) : text.toString();
    }

    private static void condition(Random random, StringBuilder text, int depth) {
        int many = 1 + random.nextInt(2);
        for (int k = 0; k < many; k++) {
            text.append(k == 0 ? "" : random.nextBoolean() ? "&" : "|");
            unit(random, text, depth);
        }
    }

    private static void unit(Random random, StringBuilder text, int depth) {
        int sort = depth < 6 ? random.nextInt(5) : 4;
        if (sort == 0) {
            text.append('!');
            unit(random, text, depth + 1);
        } else if (sort == 1) {
            text.append('(');
            condition(random, text, depth + 1);
            text.append(')');
        } else {
            sum(random, text, depth);
            text.append("=<>".charAt(random.nextInt(3)));
            sum(random, text, depth);
        }
    }

    private static void sum(Random random, StringBuilder text, int depth) {
        int many = 1 + random.nextInt(3);
        for (int k = 0; k < many; k++) {
            if (k > 0) {
                text.append("+-*/".charAt(random.nextInt(4)));
            }
            if (depth < 6 && random.nextInt(6) == 0) {
                text.append('[');
                sum(random, text, depth + 1);
                text.append(']');
            } else if (random.nextInt(3) == 0) {
                text.append(random.nextInt(random.nextBoolean() ? 10 : random.nextBoolean() ? 100 : 10000));
            } else {
                text.append("wfsonp".charAt(random.nextInt(6)));
            }
        }
    }

    static String blanks(Random random, String text) {
        StringBuilder with = new StringBuilder();
        for (int k = 0; k < text.length(); k++) {
            boolean within = k > 0 && Character.isDigit(text.charAt(k)) && Character.isDigit(text.charAt(k - 1));
            if (!within && random.nextInt(12) == 0) {
                with.append(' ');
            }
            with.append(text.charAt(k));
        }
        return with.length() > 160 ? text : with.toString();
    }

    // ---- arguments by chance, mostly such as there are

    private int many() {
        return Math.max(1, model.people.size());
    }

    private int someone() {
        return oneOf(25) ? in(-2, 8) : in(0, many() - 1);
    }

    private int someoneOrNone() {
        return oneOf(4) ? -1 : someone();
    }

    private int someHouse() {
        return oneOf(25) ? in(-1, 5) : oneOf(3) ? in(0, 3) : 0;
    }

    private int someGuests() {
        if (oneOf(25)) {
            return in(-1, 70);
        }
        return oneOf(3) ? (1 << many()) - 1 : in(1, (1 << many()) - 1);
    }

    private int guestOf(int guests) {
        List<Integer> members = model.members(guests);
        return members.isEmpty() || oneOf(15) ? someone() : members.get(random.nextInt(members.size()));
    }

    private int orderOf(int guests) {
        if (oneOf(25)) {
            return in(-5, 700000);
        }
        List<Integer> members = new ArrayList<>(model.members(guests));
        java.util.Collections.shuffle(members, random);
        int order = 0;
        for (int g : members) {
            order = order * 10 + g;
        }
        return oneOf(40) ? order + (int) Math.pow(10, members.size()) : order;
    }

    private int someIndex() {
        return oneOf(2) ? -1 : oneOf(15) ? in(-3, 40) : in(0, 4);
    }

    // ---- the run

    private void play() {
        newPeople();
        for (int k = 0; k < CALLS; k++) {
            step(random.nextInt(34));
            if (oneOf(10)) {
                lookAtAll();
            }
        }
        lookAtAll();
    }

    private void newPeople() {
        String text = blanks(random, peopleText(random, oneOf(3) ? in(2, 6) : in(2, 4)));
        Check.tape(x, text);
        Check.due(run + "fault(0) " + text, x.fault(0), -1);
        model.takePeople(text);
        Check.due(run + "text(0) " + text, x.text(0), model.people.size());
    }

    private void newRule() {
        String text = blanks(random, ruleText(random));
        Check.tape(x, text);
        Check.due(run + "fault(1) " + text, x.fault(1), -1);
        int want = -1;
        if (model.rules.size() < 4) {
            model.rules.add(text);
            want = model.rules.size() - 1;
        }
        Check.due(run + "text(1) " + text, x.text(1), want);
    }

    private void giveRule() {
        int person = someone();
        int rule = oneOf(15) ? in(-3, 6) : in(-1, Math.max(0, model.rules.size() - 1));
        boolean want = model.known(person) && rule >= -1 && rule < model.rules.size();
        if (want) {
            model.people.get(person).rule = rule;
        }
        Check.due(run + "rule(" + person + ", " + rule + ")", x.rule(person, rule), want);
    }

    private void lookAtAll() {
        for (int k = 0; k < model.people.size(); k++) {
            Model.Guest g = model.people.get(k);
            int[] want = {g.size, g.give, g.miles, g.joy, g.old, model.has[k], g.rule};
            for (int what = 0; what < want.length; what++) {
                Check.due(run + "person(" + k + ", " + what + ")", x.person(k, what), want[what]);
            }
            Check.throwsNoSuch(x, k, 7);
            Check.throwsNoSuch(x, k, -1);
            Check.due(run + "pair(" + k + ", 0)", x.pair(k, 0), g.foot);
            Check.due(run + "pair(" + k + ", 1)", x.pair(k, 1), model.worth[k]);
            Check.due(run + "pair(" + k + ", 2)", x.pair(k, 2), model.place[k]);
            Check.due(run + "been(" + k + ")", x.been(k, -1), model.been(k, -1));
            for (int q = 0; q < model.people.size(); q++) {
                Check.due(run + "fits", x.fits(k, q), model.canWear(k, model.people.get(q).foot) ? 1 : 0);
            }
        }
        Check.due(run + "count(0)", x.count(0), model.people.size());
        Check.due(run + "count(1)", x.count(1), model.rules.size());
        Check.due(run + "count(3)", x.count(3), model.diary.size());
        Check.due(run + "count(4)", x.count(4), model.sights.size());
        Check.due(run + "count(5)", x.count(5), model.alone());
        Check.due(run + "agree()", x.agree(), model.agree());
        Check.due(run + "lost()", x.lost(), model.lost());
    }

    private void step(int sort) {
        int house = someHouse();
        int guests = someGuests();
        int person = guestOf(guests);
        int pair = someoneOrNone();
        int order = orderOf(guests);
        int i = someIndex();
        String told = run + "(" + house + ", " + guests + ", " + order + ", " + person + ", " + pair + ", " + i + ") ";
        switch (sort) {
            case 0 -> {
                if (oneOf(8)) {
                    newPeople();
                }
            }
            case 1 -> newRule();
            case 2, 3 -> giveRule();
            case 4, 5, 6, 7 -> Check.due(told + "evening", x.evening(house, guests, order),
                    model.evening(house, guests, order));
            case 8 -> Check.due(told + "tried", x.tried(house, guests, order, person),
                    model.tried(house, guests, order, person));
            case 9 -> Check.due(told + "orders", x.orders(house, guests, person, pair),
                    model.ordersIn(house, guests, person, pair));
            case 10 -> Check.due(told + "worst", x.worst(house, guests, person), model.worst(house, guests, person));
            case 11 -> host(told, house, guests);
            case 12 -> Check.due(told + "hide", x.hide(house, guests, order, person, pair),
                    model.hide(house, guests, order, person, pair));
            case 13 -> rests(told, house, guests, i);
            case 14, 15 -> Check.due(told + "quiet", x.quiet(guests, i), model.quiet(guests, i));
            case 16 -> year(told);
            case 17 -> {
                int n = oneOf(10) ? in(-1, 22) : in(0, 4);
                int one = someone();
                Check.due(told + "likely " + n + " " + one, x.likely(n, one, pair), model.likely(n, one, pair));
            }
            case 18 -> cobbler(told, house, guests, person);
            case 19 -> odd();
            case 20, 21 -> sight(told);
            case 22 -> Check.due(told + "been", x.been(pair, i), model.been(pair, i));
            case 23 -> {
                int what = oneOf(20) ? in(-1, 3) : in(0, 1);
                Check.due(told + "left " + what, x.left(house, guests, what), model.left(house, guests, what));
            }
            case 24, 25 -> {
                int other = guestOf(guests);
                Check.due(told + "swap " + other, x.swap(house, guests, order, person, other),
                        model.swap(house, guests, order, person, other));
            }
            case 26, 27 -> {
                int one = oneOf(3) ? -1 : person;
                Check.due(told + "dream " + one, x.dream(house, guests, one), model.dream(house, guests, one));
            }
            case 28 -> Check.due(told + "bring", x.bring(person, pair), model.bring(person, pair));
            case 29 -> Check.due(told + "steady", x.steady(), model.steady());
            case 30 -> Check.due(told + "envy", x.envy(i), model.envy(i));
            case 31 -> Check.due(told + "image", x.image(), model.image());
            case 32 -> {
                if (oneOf(3)) {
                    Check.due(told + "back", x.back(), model.back());
                }
            }
            default -> Check.due(told + "count", x.count(6 + in(0, 9)), Model.HIDDEN);
        }
    }

    private void host(String told, int house, int guests) {
        int wish = oneOf(20) ? in(-1, 5) : in(0, 3);
        int what = oneOf(20) ? in(-1, 3) : in(0, 1);
        Check.due(told + "host " + wish + " " + what, x.host(house, guests, wish, what),
                model.host(house, guests, wish, what));
    }

    private void rests(String told, int house, int guests, int i) {
        int rounds = oneOf(20) ? in(-1, 5) : in(1, 3);
        int few = oneOf(2) ? guests & 7 : guests;
        Check.due(told + "rests " + few + " " + rounds, x.rests(house, few, rounds, i),
                model.rests(house, few, rounds, i));
    }

    private void year(String told) {
        if (!oneOf(4)) {
            return;
        }
        int n = oneOf(10) ? in(-1, 62) : in(1, 6);
        long seed = oneOf(2) ? random.nextLong() : in(-3, 3);
        Check.due(told + "year " + n + " " + seed, x.year(n, seed), model.year(n, seed));
    }

    private void cobbler(String told, int house, int guests, int person) {
        int worth = oneOf(20) ? in(-2, 102) : in(0, 99);
        int what = oneOf(20) ? in(-1, 3) : in(0, 1);
        int few = model.people.size() > 4 && !oneOf(20) ? guests & 15 : guests;
        Check.due(told + "cobbler " + worth + " " + what, x.cobbler(house, few, person, worth, what),
                model.cobbler(house, few, person, worth, what));
    }

    private void odd() {
        int n = in(1, 6);
        List<Integer> row = new ArrayList<>();
        for (int k = 0; k < n; k++) {
            row.add(k);
        }
        java.util.Collections.shuffle(row, random);
        int number = oneOf(10) ? in(-5, 60000) : row.stream().reduce(0, (a, b) -> a * 10 + b);
        int many = in(1, 6);
        Check.due(run + "odd(" + n + ", " + number + ", " + many + ")", x.odd(n, number, many),
                Model.odd(n, number, many));
    }

    private void sight(String told) {
        int evening = oneOf(10) ? in(-1, 31) : in(0, Math.max(0, model.diary.size() - 1));
        int where = oneOf(10) ? in(-1, 15) : oneOf(2) ? someone() : in(10, 13);
        int size = oneOf(10) ? in(18, 52) : in(40, 43);
        if (oneOf(2) && evening >= 0 && evening < model.diary.size()) {
            int pair = in(0, many() - 1);
            where = model.diary.get(evening)[pair];
            size = model.people.get(pair).foot;
        }
        Check.due(told + "sight " + evening + " " + where + " " + size, x.sight(evening, where, size),
                model.sight(evening, where, size));
        Check.due(told + "agree", x.agree(), model.agree());
    }
}
