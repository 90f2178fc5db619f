import java.util.ArrayDeque;
import java.util.ArrayList;
import java.util.Arrays;
import java.util.Collections;
import java.util.HashMap;
import java.util.HashSet;
import java.util.List;
import java.util.Map;
import java.util.Set;

/** The document told once more, slowly and in another way, for tests to compare with. */
final class Model {
    static final int NONE = -1;
    static final int HIDDEN = -1000000;

    /** What one PERSON is told to be. */
    static final class Guest {
        int size = 40;
        int give = 1;
        int worth = 50;
        int foot = 40;
        int old = 10;
        int miles = 1;
        int joy = 1;
        int rule = NONE;
    }

    /** A PAIR at a door. */
    static final class Shoes {
        final int number;
        final int size;
        final int worth;

        Shoes(int number, int size, int worth) {
            this.number = number;
            this.size = size;
            this.worth = worth;
        }
    }

    List<Guest> people = new ArrayList<>();
    List<String> rules = new ArrayList<>();
    int[] has = new int[0];
    int[] place = new int[0];
    int[] worth = new int[0];
    List<int[]> diary = new ArrayList<>();
    List<int[]> sights = new ArrayList<>();
    int[] imageHas;
    int[] imagePlace;
    int[] imageWorth;
    List<int[]> imageDiary;
    List<int[]> imageSights;
    private long x;

    /** The text has no FAULT. */
    void takePeople(String text) {
        people = new ArrayList<>();
        for (String person : text.replace(" ", "").split(";")) {
            people.add(guest(person));
        }
        int n = people.size();
        has = new int[n];
        place = new int[n];
        worth = new int[n];
        for (int k = 0; k < n; k++) {
            has[k] = k;
            place[k] = k;
            worth[k] = people.get(k).worth;
        }
        diary = new ArrayList<>();
        sights = new ArrayList<>();
        imageHas = null;
    }

    private static Guest guest(String person) {
        Guest g = new Guest();
        java.util.regex.Matcher m = java.util.regex.Pattern.compile("([a-z])([0-9]+)").matcher(person);
        while (m.find()) {
            int v = Integer.parseInt(m.group(2));
            switch (m.group(1)) {
                case "s" -> g.size = v;
                case "g" -> g.give = v;
                case "w" -> g.worth = v;
                case "f" -> g.foot = v;
                case "o" -> g.old = v;
                case "m" -> g.miles = v;
                case "j" -> g.joy = v;
                default -> throw new IllegalStateException(person);
            }
        }
        return g;
    }

    // ---- RULES, read from their texts each time

    static long ruleWorth(String text, Map<Character, Integer> letters) {
        for (String clause : text.replace(" ", "").split(";")) {
            String body = clause.substring(2);
            int mark = body.indexOf('?');
            if (mark < 0) {
                return sum(body, letters);
            }
            if (truth(body.substring(0, mark), letters)) {
                return sum(body.substring(mark + 1), letters);
            }
        }
        return 0;
    }

    private static List<String> parts(String text, char between) {
        List<String> parts = new ArrayList<>();
        int depth = 0;
        int from = 0;
        for (int k = 0; k < text.length(); k++) {
            char c = text.charAt(k);
            depth += c == '(' || c == '[' ? 1 : c == ')' || c == ']' ? -1 : 0;
            if (depth == 0 && c == between) {
                parts.add(text.substring(from, k));
                from = k + 1;
            }
        }
        parts.add(text.substring(from));
        return parts;
    }

    private static boolean truth(String text, Map<Character, Integer> letters) {
        for (String one : parts(text, '|')) {
            boolean all = true;
            for (String unit : parts(one, '&')) {
                all &= unit(unit, letters);
            }
            if (all) {
                return true;
            }
        }
        return false;
    }

    private static boolean unit(String text, Map<Character, Integer> letters) {
        if (text.startsWith("!")) {
            return !unit(text.substring(1), letters);
        }
        if (text.startsWith("(")) {
            return truth(text.substring(1, text.length() - 1), letters);
        }
        for (char sign : "=<>".toCharArray()) {
            List<String> sides = parts(text, sign);
            if (sides.size() == 2) {
                long a = sum(sides.get(0), letters);
                long b = sum(sides.get(1), letters);
                return sign == '=' ? a == b : sign == '<' ? a < b : a > b;
            }
        }
        throw new IllegalStateException(text);
    }

    /** Where the last of these signs stands outside of brackets, or -1. */
    private static int last(String text, String signs) {
        int depth = 0;
        for (int k = text.length() - 1; k >= 0; k--) {
            char c = text.charAt(k);
            depth += c == ']' ? 1 : c == '[' ? -1 : 0;
            if (depth == 0 && signs.indexOf(c) >= 0) {
                return k;
            }
        }
        return -1;
    }

    private static long within(long v) {
        return Math.max(-1000000L, Math.min(1000000L, v));
    }

    private static long sum(String text, Map<Character, Integer> letters) {
        int at = last(text, "+-");
        if (at < 0) {
            return term(text, letters);
        }
        long a = sum(text.substring(0, at), letters);
        long b = term(text.substring(at + 1), letters);
        return within(text.charAt(at) == '+' ? a + b : a - b);
    }

    private static long term(String text, Map<Character, Integer> letters) {
        int at = last(text, "*/");
        if (at < 0) {
            return atom(text, letters);
        }
        long a = term(text.substring(0, at), letters);
        long b = atom(text.substring(at + 1), letters);
        return within(text.charAt(at) == '*' ? a * b : b == 0 ? 0 : a / b);
    }

    private static long atom(String text, Map<Character, Integer> letters) {
        if (text.startsWith("[")) {
            return sum(text.substring(1, text.length() - 1), letters);
        }
        if (Character.isDigit(text.charAt(0))) {
            return Long.parseLong(text);
        }
        return letters.get(text.charAt(0));
    }

    // ---- EVENINGS

    boolean known(int n) {
        return n >= 0 && n < people.size();
    }

    boolean party(int house, int guests) {
        return house >= 0 && house <= 3 && guests > 0 && guests < 1 << people.size();
    }

    boolean guest(int guests, int person) {
        return known(person) && (guests & 1 << person) != 0;
    }

    List<Integer> members(int guests) {
        List<Integer> list = new ArrayList<>();
        for (int k = 0; k < people.size(); k++) {
            if ((guests & 1 << k) != 0) {
                list.add(k);
            }
        }
        return list;
    }

    /** The ORDER as a list, or null if it is none. */
    List<Integer> order(int order, int guests) {
        if (order < 0) {
            return null;
        }
        int many = Integer.bitCount(guests);
        String digits = Integer.toString(order);
        while (digits.length() < many) {
            digits = "0" + digits;
        }
        List<Integer> row = new ArrayList<>();
        for (char c : digits.toCharArray()) {
            row.add(c - '0');
        }
        List<Integer> sorted = new ArrayList<>(row);
        Collections.sort(sorted);
        return sorted.equals(members(guests)) ? row : null;
    }

    static List<List<Integer>> orders(List<Integer> members) {
        List<List<Integer>> all = new ArrayList<>();
        if (members.isEmpty()) {
            all.add(new ArrayList<>());
        }
        for (Integer first : members) {
            List<Integer> others = new ArrayList<>(members);
            others.remove(first);
            for (List<Integer> tail : orders(others)) {
                List<Integer> row = new ArrayList<>();
                row.add(first);
                row.addAll(tail);
                all.add(row);
            }
        }
        return all;
    }

    boolean canWear(int person, int size) {
        Guest g = people.get(person);
        return size >= g.size && size <= g.size + g.give;
    }

    List<Shoes> doorBy(int[] places, int house, int guests) {
        List<Shoes> door = new ArrayList<>();
        for (int q = 0; q < places.length; q++) {
            boolean brought = places[q] < 10 && (guests & 1 << places[q]) != 0;
            if (brought || places[q] == 10 + house) {
                door.add(new Shoes(q, people.get(q).foot, worth[q]));
            }
        }
        return door;
    }

    private long wish(int person, Shoes shoes, int standing) {
        Guest g = people.get(person);
        if (g.rule == NONE) {
            return canWear(person, shoes.size) ? shoes.worth : -1;
        }
        Map<Character, Integer> letters = new HashMap<>();
        letters.put('w', shoes.worth);
        letters.put('f', shoes.size - g.size);
        letters.put('s', g.size);
        letters.put('o', shoes.number == person ? 1 : 0);
        letters.put('n', standing);
        letters.put('p', shoes.number);
        long v = ruleWorth(rules.get(g.rule), letters);
        return v > 0 ? v : -1;
    }

    private Shoes choose(int person, List<Shoes> door) {
        Shoes best = null;
        for (Shoes shoes : door) {
            long v = wish(person, shoes, door.size());
            if (v < 0) {
                continue;
            }
            if (best == null || v > wish(person, best, door.size())
                    || v == wish(person, best, door.size()) && best.number != person
                    && (shoes.number == person || shoes.number < best.number)) {
                best = shoes;
            }
        }
        return best;
    }

    /** By PERSON: what it goes in; null: BARE. Only guests have an entry. */
    Map<Integer, Shoes> leave(List<Shoes> door, List<Integer> row) {
        List<Shoes> rest = new ArrayList<>(door);
        Map<Integer, Shoes> took = new HashMap<>();
        for (int person : row) {
            Shoes shoes = choose(person, rest);
            took.put(person, shoes);
            rest.remove(shoes);
        }
        return took;
    }

    private static int number(Shoes shoes) {
        return shoes == null ? NONE : shoes.number;
    }

    private static int worth(Shoes shoes) {
        return shoes == null ? 0 : shoes.worth;
    }

    int evening(int house, int guests, int order) {
        if (!party(house, guests) || order(order, guests) == null) {
            return NONE;
        }
        hold(house, guests, order(order, guests));
        return diary.size();
    }

    private void hold(int house, int guests, List<Integer> row) {
        List<Shoes> door = doorBy(place, house, guests);
        Map<Integer, Shoes> took = leave(door, row);
        for (Shoes shoes : door) {
            place[shoes.number] = 10 + house;
        }
        for (int person : row) {
            Shoes shoes = took.get(person);
            has[person] = number(shoes);
            if (shoes != null) {
                place[shoes.number] = person;
                worth[shoes.number] = Math.max(0, worth[shoes.number] - people.get(person).miles);
            }
        }
        if (diary.size() < 30) {
            diary.add(place.clone());
        }
    }

    int tried(int house, int guests, int order, int person) {
        if (!party(house, guests) || !guest(guests, person) || order(order, guests) == null) {
            return HIDDEN;
        }
        return number(leave(doorBy(place, house, guests), order(order, guests)).get(person));
    }

    int ordersIn(int house, int guests, int person, int pair) {
        if (!party(house, guests) || !guest(guests, person) || pair != NONE && !known(pair)) {
            return HIDDEN;
        }
        int found = 0;
        for (List<Integer> row : orders(members(guests))) {
            found += number(leave(doorBy(place, house, guests), row).get(person)) == pair ? 1 : 0;
        }
        return found;
    }

    int worst(int house, int guests, int person) {
        if (!party(house, guests) || !guest(guests, person)) {
            return NONE;
        }
        int worst = NONE;
        int least = 0;
        for (int at = 0; at < Integer.bitCount(guests); at++) {
            int together = 0;
            for (List<Integer> row : orders(members(guests))) {
                if (row.get(at) == person) {
                    together += worth(leave(doorBy(place, house, guests), row).get(person));
                }
            }
            if (worst == NONE || together < least) {
                worst = at;
                least = together;
            }
        }
        return worst;
    }

    int host(int house, int guests, int wish, int what) {
        if (!party(house, guests) || wish < 0 || wish > 3 || what != 0 && what != 1) {
            return NONE;
        }
        int best = Integer.MAX_VALUE;
        int most = 0;
        for (List<Integer> row : orders(members(guests))) {
            Map<Integer, Shoes> took = leave(doorBy(place, house, guests), row);
            int score = 0;
            if (wish == 0) {
                score = -(int) row.stream().filter(g -> took.get(g) == null).count();
            } else if (wish == 1) {
                score = row.stream().mapToInt(g -> worth(took.get(g))).sum();
            } else if (wish == 2) {
                score = (int) row.stream().filter(g -> number(took.get(g)) == g).count();
            } else {
                score = row.stream().mapToInt(g -> worth(took.get(g))).min().getAsInt();
            }
            int number = Integer.parseInt(row.toString().replaceAll("[^0-9]", ""));
            if (best == Integer.MAX_VALUE || score > most || score == most && number < best) {
                best = number;
                most = score;
            }
        }
        return what == 0 ? best : Math.abs(most);
    }

    int hide(int house, int guests, int order, int person, int pair) {
        if (!party(house, guests) || !guest(guests, person) || pair != NONE && !known(pair)
                || order(order, guests) == null) {
            return NONE;
        }
        int bits = 0;
        for (Shoes hidden : doorBy(place, house, guests)) {
            List<Shoes> door = doorBy(place, house, guests);
            door.removeIf(s -> s.number == hidden.number);
            if (number(leave(door, order(order, guests)).get(person)) == pair) {
                bits |= 1 << hidden.number;
            }
        }
        return bits;
    }

    // ---- RISE and COME

    private int riseHas(int house, List<Integer> members, int[] rounds, int person) {
        int guests = members.stream().mapToInt(g -> 1 << g).sum();
        List<Integer> row = new ArrayList<>(members);
        row.sort((a, b) -> {
            int ra = rounds[members.indexOf(a)];
            int rb = rounds[members.indexOf(b)];
            return ra != rb ? ra - rb : a - b;
        });
        int joy = people.get(person).joy * rounds[members.indexOf(person)];
        return joy + worth(leave(doorBy(place, house, guests), row).get(person));
    }

    int rests(int house, int guests, int most, int i) {
        if (!party(house, guests) || Integer.bitCount(guests) > 4 || most < 1 || most > 3) {
            return NONE;
        }
        List<Integer> members = members(guests);
        List<Integer> found = new ArrayList<>();
        int many = members.size();
        for (int code = 0; code < 1 << 2 * many; code++) {
            int[] rounds = new int[many];
            int rest = code;
            boolean told = true;
            for (int k = many - 1; k >= 0; k--) {
                rounds[k] = rest % 4;
                told &= rounds[k] <= most;
                rest /= 4;
            }
            boolean quiet = told;
            for (int k = 0; k < many && quiet; k++) {
                int now = riseHas(house, members, rounds, members.get(k));
                for (int r = 0; r <= most; r++) {
                    int[] other = rounds.clone();
                    other[k] = r;
                    quiet &= riseHas(house, members, other, members.get(k)) <= now;
                }
            }
            if (quiet) {
                found.add(code);
            }
        }
        return ith(found, i);
    }

    private static int ith(List<Integer> found, int i) {
        if (i == NONE) {
            return found.size();
        }
        return i >= 0 && i < found.size() ? found.get(i) : NONE;
    }

    private int comeHas(List<Integer> members, Set<Integer> old, int person) {
        List<Shoes> door = new ArrayList<>();
        for (int g : members) {
            door.add(new Shoes(g, people.get(g).foot, old.contains(g) ? people.get(g).old : worth[g]));
        }
        int home = old.contains(person) ? worth[person] : people.get(person).old;
        return home + worth(leave(door, members).get(person));
    }

    int quiet(int guests, int i) {
        if (!party(0, guests)) {
            return NONE;
        }
        List<Integer> members = members(guests);
        List<Integer> found = new ArrayList<>();
        for (int bits = 0; bits < 1 << people.size(); bits++) {
            if ((bits | guests) != guests) {
                continue;
            }
            Set<Integer> old = new HashSet<>(members(bits));
            boolean quiet = true;
            for (int g : members) {
                Set<Integer> other = new HashSet<>(old);
                if (!other.remove(g)) {
                    other.add(g);
                }
                quiet &= comeHas(members, other, g) <= comeHas(members, old, g);
            }
            if (quiet) {
                found.add(bits);
            }
        }
        return ith(found, i);
    }

    // ---- YEAR, LONG, BRING, STEADY

    private int draw(int m) {
        x = x * 6364136223846793005L + 1442695040888963407L;
        return (int) ((x >>> 33) % m);
    }

    int year(int n, long seed) {
        if (people.isEmpty() || n < 1 || n > 60) {
            return NONE;
        }
        x = seed;
        for (int k = 0; k < n; k++) {
            int house = draw(4);
            List<Integer> row = new ArrayList<>();
            for (int p = 0; p < people.size(); p++) {
                if (draw(2) == 1) {
                    row.add(p);
                }
            }
            if (row.isEmpty()) {
                row.addAll(members((1 << people.size()) - 1));
            }
            int guests = row.stream().mapToInt(g -> 1 << g).sum();
            for (int at = row.size() - 1; at >= 1; at--) {
                Collections.swap(row, at, draw(at + 1));
            }
            hold(house, guests, row);
        }
        return (int) Arrays.stream(has).filter(h -> h == NONE).count();
    }

    /** Where the PAIRS are behind an EVENING in HOUSE 0 without wear. */
    private List<Integer> behind(List<Integer> places, List<Integer> row) {
        int[] now = places.stream().mapToInt(Integer::intValue).toArray();
        int guests = row.stream().mapToInt(g -> 1 << g).sum();
        List<Shoes> door = doorBy(now, 0, guests);
        Map<Integer, Shoes> took = leave(door, row);
        List<Integer> then = new ArrayList<>(places);
        for (Shoes shoes : door) {
            then.set(shoes.number, 10);
        }
        took.forEach((person, shoes) -> {
            if (shoes != null) {
                then.set(shoes.number, person);
            }
        });
        return then;
    }

    private List<Integer> placesNow() {
        List<Integer> places = new ArrayList<>();
        for (int p : place) {
            places.add(p);
        }
        return places;
    }

    int likely(int n, int person, int pair) {
        if (n < 0 || n > 20 || !known(person) || pair != NONE && !known(pair) || people.size() > 4) {
            return NONE;
        }
        Map<List<Integer>, Long> parts = new HashMap<>();
        parts.put(placesNow(), 1000000000L);
        List<List<Integer>> all = orders(members((1 << people.size()) - 1));
        for (int k = 0; k < n; k++) {
            Map<List<Integer>, Long> next = new HashMap<>();
            parts.forEach((state, much) -> {
                for (List<Integer> row : all) {
                    next.merge(behind(state, row), much / all.size(), Long::sum);
                }
            });
            parts = next;
        }
        long sum = 0;
        for (Map.Entry<List<Integer>, Long> e : parts.entrySet()) {
            sum += e.getKey().indexOf(person) == pair ? e.getValue() : 0;
        }
        return (int) sum;
    }

    int bring(int person, int pair) {
        if (!known(person) || !known(pair) || people.size() > 4) {
            return NONE;
        }
        Map<List<Integer>, Integer> steps = new HashMap<>();
        ArrayDeque<List<Integer>> queue = new ArrayDeque<>();
        steps.put(placesNow(), 0);
        queue.add(placesNow());
        while (!queue.isEmpty()) {
            List<Integer> state = queue.remove();
            if (state.get(pair) == person) {
                return steps.get(state);
            }
            for (int guests = 1; guests < 1 << people.size(); guests++) {
                for (List<Integer> row : orders(members(guests))) {
                    List<Integer> then = behind(state, row);
                    if (!steps.containsKey(then)) {
                        steps.put(then, steps.get(state) + 1);
                        queue.add(then);
                    }
                }
            }
        }
        return NONE;
    }

    int steady() {
        if (people.isEmpty() || people.size() > 4) {
            return NONE;
        }
        for (List<Integer> row : orders(members((1 << people.size()) - 1))) {
            if (!behind(placesNow(), row).equals(placesNow())) {
                return 0;
            }
        }
        return 1;
    }

    // ---- COBBLER, ODD

    int cobbler(int house, int guests, int person, int told, int what) {
        if (!party(house, guests) || !guest(guests, person) || told < 0 || told > 99 || what != 0 && what != 1) {
            return NONE;
        }
        int best = 0;
        int most = -1;
        for (int size = 20; size <= 50; size++) {
            List<Shoes> door = doorBy(place, house, guests);
            door.removeIf(s -> s.number == person || s.number == has[person]);
            door.add(new Shoes(person, size, told));
            int often = 0;
            for (List<Integer> row : orders(members(guests))) {
                often += number(leave(door, row).get(person)) == person ? 1 : 0;
            }
            if (often > most) {
                most = often;
                best = size;
            }
        }
        return what == 0 ? best : most;
    }

    static int odd(int n, int row, int many) {
        if (n < 2 || n > 5 || many < 2 || many > n || row < 0) {
            return NONE;
        }
        StringBuilder start = new StringBuilder(Integer.toString(row));
        while (start.length() < n) {
            start.insert(0, '0');
        }
        String own = "01234".substring(0, n);
        char[] sorted = start.toString().toCharArray();
        Arrays.sort(sorted);
        if (!new String(sorted).equals(own)) {
            return NONE;
        }
        Map<String, Integer> steps = new HashMap<>();
        ArrayDeque<String> queue = new ArrayDeque<>();
        steps.put(start.toString(), 0);
        queue.add(start.toString());
        while (!steps.containsKey(own)) {
            String now = queue.remove();
            for (int who = 0; who < 1 << n; who++) {
                if (Integer.bitCount(who) == many) {
                    for (String then : given(now, who)) {
                        if (steps.putIfAbsent(then, steps.get(now) + 1) == null) {
                            queue.add(then);
                        }
                    }
                }
            }
        }
        return steps.get(own);
    }

    private static List<String> given(String now, int who) {
        List<Integer> seats = new ArrayList<>();
        for (int k = 0; k < now.length(); k++) {
            if ((who & 1 << k) != 0) {
                seats.add(k);
            }
        }
        List<String> all = new ArrayList<>();
        for (List<Integer> row : orders(seats)) {
            StringBuilder then = new StringBuilder(now);
            for (int k = 0; k < seats.size(); k++) {
                then.setCharAt(seats.get(k), now.charAt(row.get(k)));
            }
            all.add(then.toString());
        }
        return all;
    }

    // ---- the rest

    int sight(int evening, int where, int size) {
        if (evening < 0 || evening >= diary.size() || !known(where) && (where < 10 || where > 13)
                || size < 20 || size > 50 || sights.size() == 20) {
            return NONE;
        }
        sights.add(new int[] {evening, where, size});
        return sights.size();
    }

    int agree() {
        if (people.isEmpty()) {
            return NONE;
        }
        int bits = 0;
        for (int q = 0; q < people.size(); q++) {
            int pair = q;
            if (sights.stream().allMatch(s -> diary.get(s[0])[pair] == s[1] && people.get(pair).foot == s[2])) {
                bits |= 1 << q;
            }
        }
        return bits;
    }

    int been(int pair, int i) {
        if (!known(pair) || i < -1 || i >= diary.size()) {
            return NONE;
        }
        return i == NONE ? (int) diary.stream().mapToInt(d -> d[pair]).distinct().count() : diary.get(i)[pair];
    }

    int left(int house, int guests, int what) {
        if (!party(house, guests) || what != 0 && what != 1) {
            return NONE;
        }
        int bits = 0;
        for (Shoes shoes : doorBy(place, house, guests)) {
            int stays = 0;
            List<List<Integer>> all = orders(members(guests));
            for (List<Integer> row : all) {
                boolean worn = leave(doorBy(place, house, guests), row).values().stream()
                        .anyMatch(s -> number(s) == shoes.number);
                stays += worn ? 0 : 1;
            }
            if (what == 0 ? stays == all.size() : stays > 0) {
                bits |= 1 << shoes.number;
            }
        }
        return bits;
    }

    int swap(int house, int guests, int order, int one, int other) {
        if (!party(house, guests) || order(order, guests) == null || one == other
                || !guest(guests, one) || !guest(guests, other)) {
            return HIDDEN;
        }
        List<Integer> row = order(order, guests);
        Map<Integer, Shoes> before = leave(doorBy(place, house, guests), row);
        Collections.swap(row, row.indexOf(one), row.indexOf(other));
        Map<Integer, Shoes> after = leave(doorBy(place, house, guests), row);
        return worth(after.get(one)) + worth(after.get(other)) - worth(before.get(one)) - worth(before.get(other));
    }

    private List<Integer> bestWay;
    private int bestWorth;

    int dream(int house, int guests, int person) {
        if (!party(house, guests) || person != NONE && !guest(guests, person)) {
            return HIDDEN;
        }
        bestWorth = -1;
        ways(doorBy(place, house, guests), members(guests), new ArrayList<>(), 0);
        return person == NONE ? bestWorth : bestWay.get(members(guests).indexOf(person));
    }

    /** All ways in the order in which ties are told: the lowest PAIRS first, BARE behind all. */
    private void ways(List<Shoes> door, List<Integer> members, List<Integer> way, int together) {
        if (way.size() == members.size()) {
            if (together > bestWorth) {
                bestWorth = together;
                bestWay = new ArrayList<>(way);
            }
            return;
        }
        for (Shoes shoes : door) {
            if (!way.contains(shoes.number) && canWear(members.get(way.size()), shoes.size)) {
                way.add(shoes.number);
                ways(door, members, way, together + shoes.worth);
                way.remove(way.size() - 1);
            }
        }
        way.add(NONE);
        ways(door, members, way, together);
        way.remove(way.size() - 1);
    }

    int lost() {
        if (people.isEmpty()) {
            return NONE;
        }
        return people.stream().mapToInt(g -> g.worth).sum() - Arrays.stream(worth).sum();
    }

    int envy(int i) {
        if (people.isEmpty()) {
            return NONE;
        }
        List<Integer> found = new ArrayList<>();
        for (int a = 0; a < people.size(); a++) {
            for (int b = 0; b < people.size(); b++) {
                int mine = has[a] == NONE ? 0 : worth[has[a]];
                if (a != b && has[b] != NONE && canWear(a, people.get(has[b]).foot) && worth[has[b]] > mine) {
                    found.add(10 * a + b);
                }
            }
        }
        return ith(found, i);
    }

    int image() {
        if (people.isEmpty()) {
            return NONE;
        }
        imageHas = has.clone();
        imagePlace = place.clone();
        imageWorth = worth.clone();
        imageDiary = new ArrayList<>(diary);
        imageSights = new ArrayList<>(sights);
        return diary.size();
    }

    int back() {
        if (imageHas == null) {
            return NONE;
        }
        has = imageHas.clone();
        place = imagePlace.clone();
        worth = imageWorth.clone();
        diary = new ArrayList<>(imageDiary);
        sights = new ArrayList<>(imageSights);
        return diary.size();
    }

    int alone() {
        return (int) Arrays.stream(place).filter(p -> p >= 10).count();
    }
}
