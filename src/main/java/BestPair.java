import java.util.Arrays;
import java.util.NoSuchElementException;

/**
 * People who go home from evenings in the best pair that fits, after ../shared/DOC.md.
 * Every row is made in a constructor and used again, so that calls make no objects.
 */
public final class BestPair {
    public static final int NONE = -1;
    public static final int HIDDEN = -1000000;

    private static final int MOST_PEOPLE = 6;
    /** LONG, BRING, STEADY and RISE are told for so many at most. */
    private static final int FEW_PEOPLE = 4;
    /** Sets of PAIRS, as bits. */
    private static final int SETS = 64;
    private static final int HOUSES = 4;
    /** A HOUSE's place is this and its number. */
    private static final int FIRST_HOUSE = 10;
    private static final int LEAST_SIZE = 20;
    private static final int MOST_SIZE = 50;
    private static final int MOST_WORTH = 99;
    private static final int MOST_RULES = 4;
    private static final int MOST_YEAR = 60;
    private static final int MOST_LONG = 20;
    private static final int MOST_ROUNDS = 3;
    private static final int MOST_ODD = 5;

    private static final int TAPE_ROOM = 160;
    /** Each byte of a RULE gives one step at most, and its end gives one. */
    private static final int CODE_ROOM = TAPE_ROOM + 1;
    /** Steps from here on in a RULE's code are letters. */
    private static final int FIRST_LETTER = 10000;
    private static final String RULE_LETTERS = "wfsonp";

    private static final String ITEM_LETTERS = "sgwfomj";
    private static final int ITEMS = 7;
    private static final int SIZE = 0;
    private static final int GIVE = 1;
    private static final int WORTH = 2;
    private static final int PAIR_SIZE = 3;
    private static final int OLD = 4;
    private static final int MILES = 5;
    private static final int JOY = 6;
    private static final int[] ITEM_LEAST = {20, 0, 0, 20, 0, 0, 0};
    private static final int[] ITEM_MOST = {50, 9, 99, 50, 99, 9, 9};
    private static final int[] ITEM_WITHOUT = {40, 1, 50, 40, 10, 1, 1};
    /** What person() tells by 0 to 4, as items. */
    private static final int[] TOLD_ITEMS = {SIZE, GIVE, MILES, JOY, OLD};

    private static final int[] ORDERS_OF = {1, 1, 2, 6, 24, 120, 720};
    private static final int[] TENS = {1, 10, 100, 1000, 10000};

    private final Tape tape;
    private final People people;
    private final People draft;
    private final RuleReader ruleReader;
    private final Rule[] rules;
    private int ruleCount;
    private final Stand stand;
    private final Stand kept;
    private boolean hasImage;
    private final Diary diary;
    private final Door door;
    private final Leaving leaving;
    private final Contest contest;
    private final Dream dreamer;
    private final Future future;
    private long drawn;

    public BestPair() {
        tape = new Tape();
        people = new People();
        draft = new People();
        ruleReader = new RuleReader(tape);
        rules = new Rule[MOST_RULES];
        for (int rule = 0; rule < MOST_RULES; rule++) {
            rules[rule] = new Rule();
        }
        stand = new Stand();
        kept = new Stand();
        diary = new Diary();
        door = new Door(people, rules);
        leaving = new Leaving(door);
        contest = new Contest(people, stand, door, leaving);
        dreamer = new Dream(door);
        future = new Future(people, stand, leaving);
    }

    public int feed(int a, int b, int c, int d, int e) {
        int more = Tape.bytesIn(a) + Tape.bytesIn(b) + Tape.bytesIn(c) + Tape.bytesIn(d) + Tape.bytesIn(e);
        if (tape.length + more > TAPE_ROOM) {
            return NONE;
        }
        tape.put(a);
        tape.put(b);
        tape.put(c);
        tape.put(d);
        tape.put(e);
        return tape.length;
    }

    public boolean end(int n) {
        if (n < 0 || n > tape.length) {
            return false;
        }
        tape.length = n;
        return true;
    }

    public int fault(int sort) {
        if (sort == 0) {
            return draft.read(tape);
        }
        return sort == 1 ? ruleReader.read() : -2;
    }

    public int text(int sort) {
        if (sort == 0 && draft.read(tape) == NONE) {
            return takePeople();
        }
        if (sort == 1 && ruleCount < MOST_RULES && ruleReader.read() == NONE) {
            return takeRule();
        }
        return NONE;
    }

    private int takePeople() {
        people.copy(draft);
        stand.begin(people);
        diary.clear();
        hasImage = false;
        tape.length = 0;
        return people.many;
    }

    private int takeRule() {
        rules[ruleCount].keep(ruleReader);
        ruleCount++;
        tape.length = 0;
        return ruleCount - 1;
    }

    public int person(int person, int what) throws NoSuchElementException {
        if (!isKnown(person) || what < 0 || what > TOLD_ITEMS.length + 1) {
            throw new NoSuchElementException();
        }
        if (what < TOLD_ITEMS.length) {
            return people.item(person, TOLD_ITEMS[what]);
        }
        return what == TOLD_ITEMS.length ? stand.has[person] : people.ruleOf[person];
    }

    public int pair(int pair, int what) {
        if (!isKnown(pair)) {
            return NONE;
        }
        switch (what) {
            case 0:
                return people.item(pair, PAIR_SIZE);
            case 1:
                return stand.worth[pair];
            case 2:
                return stand.place[pair];
            default:
                return NONE;
        }
    }

    public int fits(int person, int pair) {
        if (!isKnown(person) || !isKnown(pair)) {
            return NONE;
        }
        return people.canWear(person, people.item(pair, PAIR_SIZE)) ? 1 : 0;
    }

    public boolean rule(int person, int rule) {
        if (!isKnown(person) || rule < NONE || rule >= ruleCount) {
            return false;
        }
        people.ruleOf[person] = rule;
        return true;
    }

    public int evening(int house, int guests, int order) {
        if (!isParty(house, guests) || !leaving.readOrder(order, guests)) {
            return NONE;
        }
        holdEvening(house, guests);
        return diary.evenings;
    }

    private void holdEvening(int house, int guests) {
        int pairs = openDoor(house, guests);
        leaving.begin(pairs);
        leaving.go(0);
        stand.settle(house, pairs, leaving, people);
        diary.write(stand);
    }

    /** The PAIRS that stand at the door, as bits. */
    private int openDoor(int house, int guests) {
        door.open(stand);
        return stand.pairsAt(house, guests);
    }

    public int tried(int house, int guests, int order, int person) {
        if (!isParty(house, guests) || !isGuest(guests, person) || !leaving.readOrder(order, guests)) {
            return HIDDEN;
        }
        leaving.begin(openDoor(house, guests));
        leaving.go(0);
        return leaving.took[person];
    }

    public int orders(int house, int guests, int person, int pair) {
        if (!isParty(house, guests) || !isGuest(guests, person) || !isKnownOrNone(pair)) {
            return HIDDEN;
        }
        return leaving.countOrders(openDoor(house, guests), guests, person, pair);
    }

    public int worst(int house, int guests, int person) {
        if (!isParty(house, guests) || !isGuest(guests, person)) {
            return NONE;
        }
        return leaving.worstPlace(openDoor(house, guests), guests, person);
    }

    public int host(int house, int guests, int wish, int what) {
        if (!isParty(house, guests) || wish < 0 || wish > 3 || what < 0 || what > 1) {
            return NONE;
        }
        int all = leaving.first(openDoor(house, guests), guests);
        int best = 0;
        int most = 0;
        int from = 0;
        for (int k = 0; k < all; k++) {
            leaving.go(from);
            int much = leaving.much(wish);
            boolean better = wish == 0 ? much < most : much > most;
            if (k == 0 || better) {
                most = much;
                best = leaving.number();
            }
            from = leaving.advance();
        }
        return what == 0 ? best : most;
    }

    public int hide(int house, int guests, int order, int person, int pair) {
        if (!isParty(house, guests) || !isGuest(guests, person) || !isKnownOrNone(pair)
                || !leaving.readOrder(order, guests)) {
            return NONE;
        }
        int pairs = openDoor(house, guests);
        int found = 0;
        for (int hidden = 0; hidden < MOST_PEOPLE; hidden++) {
            if (isIn(pairs, hidden)) {
                leaving.begin(pairs & ~(1 << hidden));
                leaving.go(0);
                found |= leaving.took[person] == pair ? 1 << hidden : 0;
            }
        }
        return found;
    }

    public int rests(int house, int guests, int rounds, int i) {
        if (!isParty(house, guests) || Integer.bitCount(guests) > FEW_PEOPLE
                || rounds < 1 || rounds > MOST_ROUNDS || i < NONE) {
            return NONE;
        }
        contest.seat(guests);
        return contest.findRest(openDoor(house, guests), rounds, i);
    }

    public int quiet(int guests, int i) {
        if (!isParty(0, guests) || i < NONE) {
            return NONE;
        }
        door.open(stand);
        return contest.findQuiet(guests, i);
    }

    public int year(int n, long seed) {
        if (people.many == 0 || n < 1 || n > MOST_YEAR) {
            return NONE;
        }
        drawn = seed;
        for (int k = 0; k < n; k++) {
            int house = draw(HOUSES);
            int guests = drawGuests();
            drawOrder(guests);
            holdEvening(house, guests);
        }
        return stand.bare(people.many);
    }

    private int drawGuests() {
        int guests = 0;
        for (int person = 0; person < people.many; person++) {
            guests |= draw(2) << person;
        }
        return guests == 0 ? everybody() : guests;
    }

    private void drawOrder(int guests) {
        leaving.lowest(guests);
        for (int place = leaving.many - 1; place > 0; place--) {
            leaving.exchange(place, draw(place + 1));
        }
    }

    private int draw(int many) {
        drawn = drawn * 6364136223846793005L + 1442695040888963407L;
        return many < 1 ? 0 : (int) ((drawn >>> 33) % many);
    }

    public int likely(int n, int person, int pair) {
        if (n < 0 || n > MOST_LONG || !isKnown(person) || !isKnownOrNone(pair) || people.many > FEW_PEOPLE) {
            return NONE;
        }
        door.open(stand);
        return future.chance(n, person, pair);
    }

    public int cobbler(int house, int guests, int person, int worth, int what) {
        if (!isParty(house, guests) || !isGuest(guests, person)
                || worth < 0 || worth > MOST_WORTH || what < 0 || what > 1) {
            return NONE;
        }
        int pairs = openDoor(house, guests);
        if (stand.has[person] != NONE) {
            pairs &= ~(1 << stand.has[person]);
        }
        pairs |= 1 << person;
        int best = LEAST_SIZE;
        int most = 0;
        for (int size = LEAST_SIZE; size <= MOST_SIZE; size++) {
            door.replace(person, size, worth);
            // Most sizes are never taken: there is no need to try all ORDERS for these.
            int often = door.isEverTaken(person, person) ? leaving.countOrders(pairs, guests, person, person) : 0;
            if (often > most) {
                most = often;
                best = size;
            }
        }
        return what == 0 ? best : most;
    }

    public int odd(int n, int row, int many) {
        if (n < 2 || n > MOST_ODD || many < 2 || many > n || !isMixedRow(n, row)) {
            return NONE;
        }
        int moved = 0;
        int rings = 0;
        for (int left = 0; left < n; left++) {
            moved += rightOf(n, row, left) == left ? 0 : 1;
            rings += isLowestOfRing(n, row, left) ? 1 : 0;
        }
        if (many == 2) {
            // A MEETING of two parts one ring into two at best, and all are own when each is a ring.
            return n - rings;
        }
        // With three or more, of five at most, what one MEETING cannot do two can.
        return moved == 0 ? 0 : moved <= many ? 1 : 2;
    }

    private static int rightOf(int n, int row, int left) {
        return row / TENS[n - 1 - left] % 10;
    }

    private static boolean isMixedRow(int n, int row) {
        if (row < 0 || row / TENS[n - 1] > 9) {
            return false;
        }
        int seen = 0;
        for (int left = 0; left < n; left++) {
            seen |= 1 << rightOf(n, row, left);
        }
        return seen == (1 << n) - 1;
    }

    private static boolean isLowestOfRing(int n, int row, int left) {
        int at = rightOf(n, row, left);
        for (int k = 0; k < n && at > left; k++) {
            at = rightOf(n, row, at);
        }
        return at == left;
    }

    public int sight(int evening, int where, int size) {
        boolean isHouse = where >= FIRST_HOUSE && where < FIRST_HOUSE + HOUSES;
        if (evening < 0 || evening >= diary.evenings || !isKnown(where) && !isHouse
                || size < LEAST_SIZE || size > MOST_SIZE || diary.sights == Diary.MOST_SIGHTS) {
            return NONE;
        }
        diary.addSight(evening, where, size);
        return diary.sights;
    }

    public int agree() {
        if (people.many == 0) {
            return NONE;
        }
        int found = 0;
        for (int pair = 0; pair < people.many; pair++) {
            if (diary.isSeenAlways(pair, people.item(pair, PAIR_SIZE))) {
                found |= 1 << pair;
            }
        }
        return found;
    }

    public int been(int pair, int i) {
        if (!isKnown(pair) || i < NONE || i >= diary.evenings) {
            return NONE;
        }
        return i == NONE ? diary.placesOf(pair) : diary.placeOf(i, pair);
    }

    public int left(int house, int guests, int what) {
        if (!isParty(house, guests) || what < 0 || what > 1) {
            return NONE;
        }
        int pairs = openDoor(house, guests);
        int all = leaving.first(pairs, guests);
        int always = pairs;
        int once = 0;
        int from = 0;
        for (int k = 0; k < all; k++) {
            leaving.go(from);
            always &= leaving.rest();
            once |= leaving.rest();
            from = leaving.advance();
        }
        return what == 0 ? always : once;
    }

    public int swap(int house, int guests, int order, int one, int other) {
        if (!isParty(house, guests) || !isGuest(guests, one) || !isGuest(guests, other) || one == other
                || !leaving.readOrder(order, guests)) {
            return HIDDEN;
        }
        leaving.begin(openDoor(house, guests));
        leaving.go(0);
        int ahead = leaving.worthOf(one) + leaving.worthOf(other);
        leaving.exchange(leaving.placeOf(one), leaving.placeOf(other));
        leaving.go(0);
        return leaving.worthOf(one) + leaving.worthOf(other) - ahead;
    }

    public int dream(int house, int guests, int person) {
        if (!isParty(house, guests) || person != NONE && !isGuest(guests, person)) {
            return HIDDEN;
        }
        int pairs = openDoor(house, guests);
        int worth = dreamer.greatest(pairs, guests);
        return person == NONE ? worth : dreamer.pairOf(person, pairs, guests);
    }

    public int bring(int person, int pair) {
        if (!isKnown(person) || !isKnown(pair) || people.many > FEW_PEOPLE) {
            return NONE;
        }
        door.open(stand);
        return future.fewest(person, pair);
    }

    public int steady() {
        if (people.many == 0 || people.many > FEW_PEOPLE) {
            return NONE;
        }
        int all = leaving.first(openDoor(0, everybody()), everybody());
        int from = 0;
        for (int k = 0; k < all; k++) {
            leaving.go(from);
            for (int person = 0; person < people.many; person++) {
                if (leaving.took[person] != stand.has[person]) {
                    return 0;
                }
            }
            from = leaving.advance();
        }
        return 1;
    }

    public int lost() {
        if (people.many == 0) {
            return NONE;
        }
        int lost = 0;
        for (int pair = 0; pair < people.many; pair++) {
            lost += people.item(pair, WORTH) - stand.worth[pair];
        }
        return lost;
    }

    public int envy(int i) {
        if (people.many == 0 || i < NONE) {
            return NONE;
        }
        int found = 0;
        for (int first = 0; first < people.many; first++) {
            for (int other = 0; other < people.many; other++) {
                if (hasEnvy(first, other)) {
                    if (found == i) {
                        return 10 * first + other;
                    }
                    found++;
                }
            }
        }
        return i == NONE ? found : NONE;
    }

    private boolean hasEnvy(int first, int other) {
        int wanted = stand.has[other];
        if (wanted == NONE || !people.canWear(first, people.item(wanted, PAIR_SIZE))) {
            return false;
        }
        int own = stand.has[first];
        return stand.worth[wanted] > (own == NONE ? 0 : stand.worth[own]);
    }

    public int image() {
        if (people.many == 0) {
            return NONE;
        }
        kept.copy(stand);
        diary.keep();
        hasImage = true;
        return diary.evenings;
    }

    public int back() {
        if (!hasImage) {
            return NONE;
        }
        stand.copy(kept);
        diary.restore();
        return diary.evenings;
    }

    public int count(int what) {
        switch (what) {
            case 0:
                return people.many;
            case 1:
                return ruleCount;
            case 2:
                return tape.length;
            case 3:
                return diary.evenings;
            case 4:
                return diary.sights;
            case 5:
                return stand.alone();
            default:
                return HIDDEN;
        }
    }

    /** PERSONS and PAIRS have the same numbers. */
    private boolean isKnown(int number) {
        return number >= 0 && number < people.many;
    }

    private boolean isKnownOrNone(int pair) {
        return pair == NONE || isKnown(pair);
    }

    private int everybody() {
        return (1 << people.many) - 1;
    }

    private boolean isParty(int house, int guests) {
        return house >= 0 && house < HOUSES && guests > 0 && guests <= everybody();
    }

    private boolean isGuest(int guests, int person) {
        return isKnown(person) && isIn(guests, person);
    }

    private static boolean isIn(int set, int number) {
        return (set >> number & 1) == 1;
    }

    private static boolean isDigit(int sign) {
        return sign >= '0' && sign <= '9';
    }

    private static int indexIn(String letters, int sign) {
        for (int k = 0; k < letters.length(); k++) {
            if (letters.charAt(k) == sign) {
                return k;
            }
        }
        return NONE;
    }

    /** The TAPE, and a place on it from which a TEXT is read. */
    private static final class Tape {
        private final char[] signs = new char[TAPE_ROOM];
        private int length;
        private int at;

        static int bytesIn(int number) {
            int many = 0;
            for (int shift = 24; shift >= 0; shift -= 8) {
                many += (number >>> shift & 255) == 0 ? 0 : 1;
            }
            return many;
        }

        void put(int number) {
            for (int shift = 24; shift >= 0; shift -= 8) {
                int sign = number >>> shift & 255;
                if (sign != 0 && length < TAPE_ROOM) {
                    signs[length] = (char) sign;
                    length++;
                }
            }
        }

        /** The sign at the next place that is no blank; NONE at the end. */
        int next() {
            while (at < length && signs[at] == ' ') {
                at++;
            }
            return at < length ? signs[at] : NONE;
        }

        boolean pass(int sign) {
            if (next() != sign) {
                return false;
            }
            at++;
            return true;
        }

        /** NONE, and the place at what is wrong, if there is no digit or one too many. */
        int readNumber(int mostDigits) {
            int value = 0;
            int digits = 0;
            int sign = next();
            while (digits < mostDigits && isDigit(sign)) {
                value = value * 10 + sign - '0';
                digits++;
                at++;
                sign = at < length ? signs[at] : NONE;
            }
            return digits == 0 || isDigit(sign) ? NONE : value;
        }
    }

    /** PEOPLE as their TEXT tells them, and the RULES that they have. */
    private static final class People {
        private final int[] items = new int[MOST_PEOPLE * ITEMS];
        private final int[] ruleOf = new int[MOST_PEOPLE];
        private int many;

        int item(int person, int item) {
            return items[person * ITEMS + item];
        }

        boolean canWear(int person, int size) {
            int more = size - item(person, SIZE);
            return more >= 0 && more <= item(person, GIVE);
        }

        void copy(People other) {
            System.arraycopy(other.items, 0, items, 0, items.length);
            Arrays.fill(ruleOf, NONE);
            many = other.many;
        }

        /** The FAULT, or NONE. */
        int read(Tape tape) {
            tape.at = 0;
            many = 0;
            boolean more = true;
            while (more && many < MOST_PEOPLE) {
                if (!readPerson(tape)) {
                    return tape.at;
                }
                many++;
                more = many < MOST_PEOPLE && tape.pass(';');
            }
            return many >= 2 && tape.next() == NONE ? NONE : tape.at;
        }

        private boolean readPerson(Tape tape) {
            if (!tape.pass('p')) {
                return false;
            }
            System.arraycopy(ITEM_WITHOUT, 0, items, many * ITEMS, ITEMS);
            int seen = 0;
            for (int k = 0; k <= ITEMS; k++) {
                int item = indexIn(ITEM_LETTERS, tape.next());
                if (item == NONE) {
                    return true;
                }
                if (isIn(seen, item)) {
                    return false;
                }
                seen |= 1 << item;
                tape.at++;
                if (!readItem(tape, item)) {
                    return false;
                }
            }
            return true;
        }

        private boolean readItem(Tape tape, int item) {
            int value = tape.readNumber(2);
            if (value == NONE) {
                return false;
            }
            if (value < ITEM_LEAST[item] || value > ITEM_MOST[item]) {
                // The document counts such a number wrong at its last digit.
                tape.at--;
                return false;
            }
            items[many * ITEMS + item] = value;
            return true;
        }
    }

    /**
     * Reads a RULE and writes it as steps for a stack, each operator behind what it joins:
     * numbers as they are, letters from FIRST_LETTER on, other signs as less than 0.
     */
    private static final class RuleReader {
        private static final int MOST_DEPTH = 6;

        private final Tape tape;
        private final int[] code = new int[CODE_ROOM];
        private int length;

        RuleReader(Tape tape) {
            this.tape = tape;
        }

        /** The FAULT, or NONE. */
        int read() {
            tape.at = 0;
            length = 0;
            for (int k = 0; k < TAPE_ROOM; k++) {
                if (!readClause()) {
                    return tape.at;
                }
                write(-';');
                if (!tape.pass(';')) {
                    return tape.next() == NONE ? NONE : tape.at;
                }
            }
            return tape.at;
        }

        private void write(int step) {
            if (length < CODE_ROOM) {
                code[length] = step;
                length++;
            }
        }

        private boolean readClause() {
            if (!tape.pass('y') || !tape.pass(':')) {
                return false;
            }
            int sign = tape.next();
            if (sign == '!' || sign == '(') {
                return readCondition(0) && readAnswer();
            }
            if (!readSum(0)) {
                return false;
            }
            if (!isRelation(tape.next())) {
                return true;
            }
            // The SUM was the first one of a CONDITION, so what may follow each part of that is read.
            return readRelation(0) && readMoreUnits(0) && readMoreTruths(0) && readAnswer();
        }

        private boolean readAnswer() {
            if (!tape.pass('?')) {
                return false;
            }
            write(-'?');
            return readSum(0);
        }

        private boolean readCondition(int depth) {
            return readTruth(depth) && readMoreTruths(depth);
        }

        private boolean readMoreTruths(int depth) {
            for (int k = 0; k < TAPE_ROOM && tape.pass('|'); k++) {
                if (!readTruth(depth)) {
                    return false;
                }
                write(-'|');
            }
            return true;
        }

        private boolean readTruth(int depth) {
            return readUnit(depth) && readMoreUnits(depth);
        }

        private boolean readMoreUnits(int depth) {
            for (int k = 0; k < TAPE_ROOM && tape.pass('&'); k++) {
                if (!readUnit(depth)) {
                    return false;
                }
                write(-'&');
            }
            return true;
        }

        private boolean readUnit(int depth) {
            int sign = tape.next();
            if (sign != '!' && sign != '(') {
                return readSum(depth) && readRelation(depth);
            }
            if (depth == MOST_DEPTH) {
                return false;
            }
            tape.at++;
            if (sign == '(') {
                return readCondition(depth + 1) && tape.pass(')');
            }
            if (!readUnit(depth + 1)) {
                return false;
            }
            write(-'!');
            return true;
        }

        private static boolean isRelation(int sign) {
            return sign == '=' || sign == '<' || sign == '>';
        }

        private boolean readRelation(int depth) {
            int sign = tape.next();
            if (!isRelation(sign)) {
                return false;
            }
            tape.at++;
            if (!readSum(depth)) {
                return false;
            }
            write(-sign);
            return true;
        }

        private boolean readSum(int depth) {
            if (!readTerm(depth)) {
                return false;
            }
            int sign = tape.next();
            for (int k = 0; k < TAPE_ROOM && (sign == '+' || sign == '-'); k++) {
                tape.at++;
                if (!readTerm(depth)) {
                    return false;
                }
                write(-sign);
                sign = tape.next();
            }
            return true;
        }

        private boolean readTerm(int depth) {
            if (!readAtom(depth)) {
                return false;
            }
            int sign = tape.next();
            for (int k = 0; k < TAPE_ROOM && (sign == '*' || sign == '/'); k++) {
                tape.at++;
                if (!readAtom(depth)) {
                    return false;
                }
                write(-sign);
                sign = tape.next();
            }
            return true;
        }

        private boolean readAtom(int depth) {
            int sign = tape.next();
            if (isDigit(sign)) {
                int value = tape.readNumber(4);
                if (value != NONE) {
                    write(value);
                }
                return value != NONE;
            }
            int letter = indexIn(RULE_LETTERS, sign);
            if (letter != NONE) {
                tape.at++;
                write(FIRST_LETTER + letter);
                return true;
            }
            if (sign != '[' || depth == MOST_DEPTH) {
                return false;
            }
            tape.at++;
            return readSum(depth + 1) && tape.pass(']');
        }
    }

    /** A RULE, as the steps that its reader wrote. */
    private static final class Rule {
        /** Six levels of depth with five open operators each need far less. */
        private static final int STACK_ROOM = 64;
        private static final int BOUND = 1000000;

        private final int[] code = new int[CODE_ROOM];
        private final int[] stack = new int[STACK_ROOM];
        private int length;

        void keep(RuleReader reader) {
            length = reader.length;
            System.arraycopy(reader.code, 0, code, 0, length);
        }

        /** WORTH of the RULE by its letters, in the order of RULE_LETTERS. */
        int value(int[] letters) {
            int top = 0;
            for (int at = 0; at < length; at++) {
                int step = code[at];
                if (step >= 0) {
                    if (top < STACK_ROOM) {
                        stack[top] = step < FIRST_LETTER ? step : letters[step - FIRST_LETTER];
                        top++;
                    }
                } else if (step == -';') {
                    return top > 0 ? stack[0] : 0;
                } else if (step == -'?') {
                    if (top > 0 && stack[0] == 0) {
                        at = endOfClause(at);
                    }
                    top = 0;
                } else if (step == -'!') {
                    if (top > 0) {
                        stack[top - 1] = 1 - stack[top - 1];
                    }
                } else if (top > 1) {
                    top--;
                    stack[top - 1] = reckon(-step, stack[top - 1], stack[top]);
                }
            }
            return 0;
        }

        private int endOfClause(int from) {
            int at = from;
            while (at < length && code[at] != -';') {
                at++;
            }
            return at;
        }

        private static int reckon(int sign, int one, int other) {
            long much;
            switch (sign) {
                case '=':
                    return one == other ? 1 : 0;
                case '<':
                    return one < other ? 1 : 0;
                case '>':
                    return one > other ? 1 : 0;
                case '&':
                    return one & other;
                case '|':
                    return one | other;
                case '+':
                    much = one + other;
                    break;
                case '-':
                    much = one - other;
                    break;
                case '*':
                    much = (long) one * other;
                    break;
                default:
                    much = other == 0 ? 0 : one / other;
                    break;
            }
            return much > BOUND ? BOUND : much < -BOUND ? -BOUND : (int) much;
        }
    }

    /** Who has what, where each PAIR is, and its WORTH: what EVENINGS change. */
    private static final class Stand {
        /** By PERSON: its PAIR, or NONE. */
        private final int[] has = new int[MOST_PEOPLE];
        /** By PAIR: a PERSON, or FIRST_HOUSE and a HOUSE; NONE for PAIRS that there are not. */
        private final int[] place = new int[MOST_PEOPLE];
        private final int[] worth = new int[MOST_PEOPLE];

        void begin(People people) {
            for (int number = 0; number < MOST_PEOPLE; number++) {
                boolean isThere = number < people.many;
                has[number] = isThere ? number : NONE;
                place[number] = isThere ? number : NONE;
                worth[number] = isThere ? people.item(number, WORTH) : 0;
            }
        }

        void copy(Stand other) {
            System.arraycopy(other.has, 0, has, 0, MOST_PEOPLE);
            System.arraycopy(other.place, 0, place, 0, MOST_PEOPLE);
            System.arraycopy(other.worth, 0, worth, 0, MOST_PEOPLE);
        }

        /** PAIRS at the door of a HOUSE, as bits. */
        int pairsAt(int house, int guests) {
            int pairs = 0;
            for (int pair = 0; pair < MOST_PEOPLE; pair++) {
                int at = place[pair];
                boolean isWorn = at >= 0 && at < MOST_PEOPLE;
                if (at == FIRST_HOUSE + house || isWorn && isIn(guests, at)) {
                    pairs |= 1 << pair;
                }
            }
            return pairs;
        }

        void settle(int house, int pairs, Leaving leaving, People people) {
            for (int pair = 0; pair < MOST_PEOPLE; pair++) {
                if (isIn(pairs, pair)) {
                    place[pair] = FIRST_HOUSE + house;
                }
            }
            for (int k = 0; k < leaving.many; k++) {
                int person = leaving.row[k];
                int pair = leaving.took[person];
                has[person] = pair;
                if (pair != NONE) {
                    place[pair] = person;
                    worth[pair] = Math.max(0, worth[pair] - people.item(person, MILES));
                }
            }
        }

        int bare(int many) {
            int bare = 0;
            for (int person = 0; person < many; person++) {
                bare += has[person] == NONE ? 1 : 0;
            }
            return bare;
        }

        /** How many PAIRS nobody has. */
        int alone() {
            int alone = 0;
            for (int pair = 0; pair < MOST_PEOPLE; pair++) {
                alone += place[pair] >= FIRST_HOUSE ? 1 : 0;
            }
            return alone;
        }
    }

    /** The DIARY and the SIGHTS. Both only grow, so an IMAGE need keep no more than how long they were. */
    private static final class Diary {
        private static final int MOST_EVENINGS = 30;
        private static final int MOST_SIGHTS = 20;

        private final int[] places = new int[MOST_EVENINGS * MOST_PEOPLE];
        private final int[] seen = new int[MOST_SIGHTS * 3];
        private int evenings;
        private int sights;
        private int keptEvenings;
        private int keptSights;

        void clear() {
            evenings = 0;
            sights = 0;
        }

        void keep() {
            keptEvenings = evenings;
            keptSights = sights;
        }

        void restore() {
            evenings = keptEvenings;
            sights = keptSights;
        }

        void write(Stand stand) {
            if (evenings < MOST_EVENINGS) {
                System.arraycopy(stand.place, 0, places, evenings * MOST_PEOPLE, MOST_PEOPLE);
                evenings++;
            }
        }

        int placeOf(int evening, int pair) {
            return places[evening * MOST_PEOPLE + pair];
        }

        int placesOf(int pair) {
            int been = 0;
            for (int evening = 0; evening < evenings; evening++) {
                been |= 1 << placeOf(evening, pair);
            }
            return Integer.bitCount(been);
        }

        void addSight(int evening, int where, int size) {
            if (sights < MOST_SIGHTS) {
                seen[sights * 3] = evening;
                seen[sights * 3 + 1] = where;
                seen[sights * 3 + 2] = size;
                sights++;
            }
        }

        boolean isSeenAlways(int pair, int size) {
            for (int sight = 0; sight < sights; sight++) {
                if (placeOf(seen[sight * 3], pair) != seen[sight * 3 + 1] || size != seen[sight * 3 + 2]) {
                    return false;
                }
            }
            return true;
        }
    }

    /** PAIRS as they would stand at a door, and what each PERSON takes of some of them. */
    private static final class Door {
        private static final int UNKNOWN = -2;
        /** 0 to MOST_PEOPLE PAIRS stand at a door. */
        private static final int COUNTS = MOST_PEOPLE + 1;

        private final People people;
        private final Rule[] rules;
        private final int[] size = new int[MOST_PEOPLE];
        private final int[] worth = new int[MOST_PEOPLE];
        /** What was found once is kept: all ORDERS ask for the same again and again. */
        private final int[] desires = new int[MOST_PEOPLE * MOST_PEOPLE * COUNTS];
        private final int[] picks = new int[MOST_PEOPLE * SETS];
        private final int[] letters = new int[RULE_LETTERS.length()];

        Door(People people, Rule[] rules) {
            this.people = people;
            this.rules = rules;
        }

        void open(Stand stand) {
            for (int pair = 0; pair < MOST_PEOPLE; pair++) {
                size[pair] = people.item(pair, PAIR_SIZE);
                worth[pair] = stand.worth[pair];
            }
            forget();
        }

        private void forget() {
            Arrays.fill(desires, UNKNOWN);
            Arrays.fill(picks, UNKNOWN);
        }

        /** Another PAIR under this number: what is known of the others holds on. */
        void replace(int pair, int newSize, int newWorth) {
            size[pair] = newSize;
            worth[pair] = newWorth;
            for (int person = 0; person < MOST_PEOPLE; person++) {
                int from = (person * MOST_PEOPLE + pair) * COUNTS;
                for (int k = 0; k < COUNTS; k++) {
                    desires[from + k] = UNKNOWN;
                }
            }
            Arrays.fill(picks, UNKNOWN);
        }

        int worthOf(int pair) {
            return pair == NONE ? 0 : worth[pair];
        }

        /** What a PERSON takes of the PAIRS (bits) at the door; NONE: it goes BARE. */
        int pick(int person, int pairs) {
            int known = picks[person * SETS + pairs];
            if (known != UNKNOWN) {
                return known;
            }
            int standing = Integer.bitCount(pairs);
            int best = NONE;
            int most = 0;
            for (int pair = 0; pair < MOST_PEOPLE; pair++) {
                if (isIn(pairs, pair)) {
                    int much = desire(person, pair, standing);
                    if (much > most || much == most && much > 0 && pair == person) {
                        best = pair;
                        most = much;
                    }
                }
            }
            picks[person * SETS + pairs] = best;
            return best;
        }

        /** Whether there is a number of PAIRS at the door by which a PERSON might take this one. */
        boolean isEverTaken(int person, int pair) {
            for (int standing = 1; standing < COUNTS; standing++) {
                if (desire(person, pair, standing) > 0) {
                    return true;
                }
            }
            return false;
        }

        /** The more, the rather it is taken; 0: never. Without a RULE even a PAIR of WORTH 0 is taken. */
        private int desire(int person, int pair, int standing) {
            int at = (person * MOST_PEOPLE + pair) * COUNTS + standing;
            if (desires[at] != UNKNOWN) {
                return desires[at];
            }
            int rule = people.ruleOf[person];
            int much;
            if (rule == NONE) {
                much = people.canWear(person, size[pair]) ? worth[pair] + 1 : 0;
            } else {
                letters[0] = worth[pair];
                letters[1] = size[pair] - people.item(person, SIZE);
                letters[2] = people.item(person, SIZE);
                letters[3] = person == pair ? 1 : 0;
                letters[4] = standing;
                letters[5] = pair;
                much = Math.max(0, rules[rule].value(letters));
            }
            desires[at] = much;
            return much;
        }
    }

    /** Guests in the row of an ORDER, who go from a door one behind another. */
    private static final class Leaving {
        private final Door door;
        private final int[] row = new int[MOST_PEOPLE];
        private int many;
        /** By PERSON: the PAIR that it goes in, or NONE. */
        private final int[] took = new int[MOST_PEOPLE];
        /** By place in the row: the PAIRS (bits) that stand at the door then. */
        private final int[] standing = new int[MOST_PEOPLE + 1];
        private final int[] sums = new int[MOST_PEOPLE];

        Leaving(Door door) {
            this.door = door;
        }

        boolean readOrder(int order, int guests) {
            many = Integer.bitCount(guests);
            int rest = order;
            int seen = 0;
            for (int place = many - 1; place >= 0; place--) {
                int digit = rest % 10;
                if (digit < 0 || digit >= MOST_PEOPLE) {
                    return false;
                }
                row[place] = digit;
                seen |= 1 << digit;
                rest /= 10;
            }
            return rest == 0 && seen == guests;
        }

        void lowest(int guests) {
            many = 0;
            for (int person = 0; person < MOST_PEOPLE; person++) {
                if (isIn(guests, person)) {
                    add(person);
                }
            }
        }

        void add(int person) {
            if (many < MOST_PEOPLE) {
                row[many] = person;
                many++;
            }
        }

        void exchange(int place, int other) {
            int person = row[place];
            row[place] = row[other];
            row[other] = person;
        }

        /** The next ORDER, as numbers rise; the first place that is changed (none: behind all). */
        int advance() {
            int low = many - 2;
            while (low >= 0 && row[low] > row[low + 1]) {
                low--;
            }
            if (low < 0) {
                return many;
            }
            int high = many - 1;
            while (high > low && row[high] < row[low]) {
                high--;
            }
            exchange(low, high);
            int last = many - 1;
            for (int place = low + 1; place < last; place++) {
                exchange(place, last);
                last--;
            }
            return low;
        }

        int number() {
            int number = 0;
            for (int place = 0; place < many; place++) {
                number = number * 10 + row[place];
            }
            return number;
        }

        int placeOf(int person) {
            for (int place = 0; place < many; place++) {
                if (row[place] == person) {
                    return place;
                }
            }
            return 0;
        }

        void begin(int pairs) {
            standing[0] = pairs;
        }

        /** Those ahead of the place went as before: only from it on all go anew. */
        void go(int from) {
            for (int place = from; place < many; place++) {
                int person = row[place];
                int pair = door.pick(person, standing[place]);
                took[person] = pair;
                standing[place + 1] = pair == NONE ? standing[place] : standing[place] & ~(1 << pair);
            }
        }

        /** The least ORDER of these guests, who have yet to go; how many ORDERS there are. */
        int first(int pairs, int guests) {
            lowest(guests);
            begin(pairs);
            return ORDERS_OF[many];
        }

        /** PAIRS (bits) that are left at the door. */
        int rest() {
            return standing[many];
        }

        int worthOf(int person) {
            return door.worthOf(took[person]);
        }

        int countOrders(int pairs, int guests, int person, int pair) {
            int all = first(pairs, guests);
            int found = 0;
            int from = 0;
            for (int k = 0; k < all; k++) {
                go(from);
                found += took[person] == pair ? 1 : 0;
                from = advance();
            }
            return found;
        }

        int worstPlace(int pairs, int guests, int person) {
            Arrays.fill(sums, 0);
            int all = first(pairs, guests);
            int from = 0;
            for (int k = 0; k < all; k++) {
                go(from);
                sums[placeOf(person)] += worthOf(person);
                from = advance();
            }
            int worst = 0;
            for (int place = 1; place < many; place++) {
                if (sums[place] < sums[worst]) {
                    worst = place;
                }
            }
            return worst;
        }

        /** By a HOST's wish: how many, or how much. */
        int much(int wish) {
            int bare = 0;
            int together = 0;
            int own = 0;
            int least = MOST_WORTH;
            for (int place = 0; place < many; place++) {
                int person = row[place];
                int worth = worthOf(person);
                bare += took[person] == NONE ? 1 : 0;
                together += worth;
                own += took[person] == person ? 1 : 0;
                least = Math.min(least, worth);
            }
            switch (wish) {
                case 0:
                    return bare;
                case 1:
                    return together;
                case 2:
                    return own;
                default:
                    return least;
            }
        }
    }

    /** RISE and COME: what each has by what all choose, and choices that nobody alone would leave. */
    private static final class Contest {
        private static final int MOST_ROWS = 256;

        private final People people;
        private final Stand stand;
        private final Door door;
        private final Leaving leaving;
        private final int[] seats = new int[MOST_PEOPLE];
        private int many;
        private final int[] payoffs = new int[MOST_ROWS * FEW_PEOPLE];

        Contest(People people, Stand stand, Door door, Leaving leaving) {
            this.people = people;
            this.stand = stand;
            this.door = door;
            this.leaving = leaving;
        }

        void seat(int guests) {
            many = 0;
            for (int person = 0; person < MOST_PEOPLE; person++) {
                if (isIn(guests, person)) {
                    seats[many] = person;
                    many++;
                }
            }
        }

        /** Of those that seat() told. How many RESTS (i NONE), or the i-th. */
        int findRest(int pairs, int rounds, int i) {
            int rows = 1 << 2 * Math.min(many, FEW_PEOPLE);
            for (int row = 0; row < rows; row++) {
                if (isTold(row, rounds)) {
                    rise(row, pairs, rounds);
                }
            }
            int found = 0;
            for (int row = 0; row < rows; row++) {
                if (isTold(row, rounds) && isRest(row, rounds)) {
                    if (found == i) {
                        return row;
                    }
                    found++;
                }
            }
            return i == NONE ? found : NONE;
        }

        private int shiftOf(int seat) {
            return 2 * (many - 1 - seat);
        }

        private int roundOf(int row, int seat) {
            return row >> shiftOf(seat) & 3;
        }

        private boolean isTold(int row, int rounds) {
            for (int seat = 0; seat < many; seat++) {
                if (roundOf(row, seat) > rounds) {
                    return false;
                }
            }
            return true;
        }

        private void rise(int row, int pairs, int rounds) {
            leaving.lowest(0);
            for (int round = 0; round <= rounds; round++) {
                for (int seat = 0; seat < many; seat++) {
                    if (roundOf(row, seat) == round) {
                        leaving.add(seats[seat]);
                    }
                }
            }
            leaving.begin(pairs);
            leaving.go(0);
            for (int seat = 0; seat < many; seat++) {
                int joy = people.item(seats[seat], JOY) * roundOf(row, seat);
                payoffs[row * FEW_PEOPLE + seat] = joy + leaving.worthOf(seats[seat]);
            }
        }

        private boolean isRest(int row, int rounds) {
            for (int seat = 0; seat < many; seat++) {
                int without = row & ~(3 << shiftOf(seat));
                for (int round = 0; round <= rounds; round++) {
                    int other = without | round << shiftOf(seat);
                    if (payoffs[other * FEW_PEOPLE + seat] > payoffs[row * FEW_PEOPLE + seat]) {
                        return false;
                    }
                }
            }
            return true;
        }

        /** How many QUIET sets (i NONE), or the i-th. */
        int findQuiet(int guests, int i) {
            for (int old = 0; old <= guests; old++) {
                if ((old & ~guests) == 0) {
                    come(old, guests);
                }
            }
            int found = 0;
            for (int old = 0; old <= guests; old++) {
                if ((old & ~guests) == 0 && isQuiet(old, guests)) {
                    if (found == i) {
                        return old;
                    }
                    found++;
                }
            }
            return i == NONE ? found : NONE;
        }

        private void come(int old, int guests) {
            leaving.lowest(guests);
            for (int k = 0; k < leaving.many; k++) {
                int person = leaving.row[k];
                door.worth[person] = comesIn(person, isIn(old, person));
            }
            door.forget();
            leaving.begin(guests);
            leaving.go(0);
            for (int k = 0; k < leaving.many; k++) {
                int person = leaving.row[k];
                int atHome = comesIn(person, !isIn(old, person));
                payoffs[old * MOST_PEOPLE + person] = leaving.worthOf(person) + atHome;
            }
        }

        private int comesIn(int person, boolean isOld) {
            return isOld ? people.item(person, OLD) : stand.worth[person];
        }

        private boolean isQuiet(int old, int guests) {
            for (int person = 0; person < MOST_PEOPLE; person++) {
                int other = old ^ 1 << person;
                if (isIn(guests, person)
                        && payoffs[other * MOST_PEOPLE + person] > payoffs[old * MOST_PEOPLE + person]) {
                    return false;
                }
            }
            return true;
        }
    }

    /** The greatest WORTH in which guests could go. */
    private static final class Dream {
        private final Door door;
        /** By how many guests are left and which PAIRS (bits) are: the greatest WORTH. With none left it stays 0. */
        private final int[] best = new int[(MOST_PEOPLE + 1) * SETS];

        Dream(Door door) {
            this.door = door;
        }

        int greatest(int pairs, int guests) {
            int guestsLeft = 0;
            for (int person = MOST_PEOPLE - 1; person >= 0; person--) {
                if (isIn(guests, person)) {
                    guestsLeft++;
                    for (int set = 0; set <= pairs; set++) {
                        if ((set & ~pairs) == 0) {
                            best[guestsLeft * SETS + set] = bestOf(person, guestsLeft, set);
                        }
                    }
                }
            }
            return best[guestsLeft * SETS + pairs];
        }

        private int bestOf(int person, int guestsLeft, int set) {
            int most = best[(guestsLeft - 1) * SETS + set];
            for (int pair = 0; pair < MOST_PEOPLE; pair++) {
                if (isIn(set, pair) && door.people.canWear(person, door.size[pair])) {
                    most = Math.max(most, worthWith(pair, guestsLeft, set));
                }
            }
            return most;
        }

        private int worthWith(int pair, int guestsLeft, int set) {
            return door.worth[pair] + best[(guestsLeft - 1) * SETS + (set & ~(1 << pair))];
        }

        /** Behind greatest() of the same: the PAIR that one has then. */
        int pairOf(int person, int pairs, int guests) {
            int set = pairs;
            int guestsLeft = Integer.bitCount(guests);
            int got = NONE;
            for (int guest = 0; guest <= person; guest++) {
                if (isIn(guests, guest)) {
                    got = lowestOf(guest, guestsLeft, set);
                    set = got == NONE ? set : set & ~(1 << got);
                    guestsLeft--;
                }
            }
            return got;
        }

        private int lowestOf(int person, int guestsLeft, int set) {
            for (int pair = 0; pair < MOST_PEOPLE; pair++) {
                if (isIn(set, pair) && door.people.canWear(person, door.size[pair])
                        && worthWith(pair, guestsLeft, set) == best[guestsLeft * SETS + set]) {
                    return pair;
                }
            }
            return NONE;
        }
    }

    /**
     * LONG and BRING. A state is told by who has what: digits to the base 5, 0 for BARE,
     * 1 and the PAIR otherwise; what nobody has and no other HOUSE has stands in HOUSE 0.
     */
    private static final class Future {
        private static final int WHOLE = 1000000000;
        private static final int STATES = 625;
        private static final int MOST_ORDERS = 24;
        private static final int[] FIVES = {1, 5, 25, 125};

        private final People people;
        private final Stand stand;
        private final Leaving leaving;
        private final int[] kinds = new int[MOST_ORDERS];
        private final int[] ways = new int[MOST_ORDERS];
        private int kindCount;
        private final int[] steps = new int[STATES];
        private final int[] queue = new int[STATES];
        private int queued;

        Future(People people, Stand stand, Leaving leaving) {
            this.people = people;
            this.stand = stand;
            this.leaving = leaving;
        }

        private static int pairIn(int state, int person) {
            return state / FIVES[person] % 5 - 1;
        }

        private int stateNow() {
            int state = 0;
            for (int person = 0; person < people.many; person++) {
                state += (stand.has[person] + 1) * FIVES[person];
            }
            return state;
        }

        /** PAIRS (bits) that do not stand in another HOUSE. */
        private int pairsAround() {
            int pairs = 0;
            for (int pair = 0; pair < people.many; pair++) {
                pairs |= stand.place[pair] <= FIRST_HOUSE ? 1 << pair : 0;
            }
            return pairs;
        }

        /**
         * When all come, all PAIRS around stand at the door, whoever had them: each state
         * leads to the same kinds of state, each by the same number of ORDERS.
         */
        int chance(int n, int person, int pair) {
            if (n == 0) {
                return stand.has[person] == pair ? WHOLE : 0;
            }
            int all = findKinds();
            int share = WHOLE / Math.max(1, all);
            for (int evening = 1; evening < n; evening++) {
                int together = 0;
                for (int kind = 0; kind < kindCount; kind++) {
                    together += ways[kind] * share / Math.max(1, all);
                }
                share = together;
            }
            int parts = 0;
            for (int kind = 0; kind < kindCount; kind++) {
                parts += pairIn(kinds[kind], person) == pair ? ways[kind] * share : 0;
            }
            return parts;
        }

        /** How many ORDERS there are, and the different states behind them. */
        private int findKinds() {
            int all = leaving.first(pairsAround(), (1 << people.many) - 1);
            int from = 0;
            kindCount = 0;
            for (int k = 0; k < all; k++) {
                leaving.go(from);
                addKind(stateBehind(0));
                from = leaving.advance();
            }
            return all;
        }

        private void addKind(int state) {
            for (int kind = 0; kind < kindCount; kind++) {
                if (kinds[kind] == state) {
                    ways[kind]++;
                    return;
                }
            }
            if (kindCount < MOST_ORDERS) {
                kinds[kindCount] = state;
                ways[kindCount] = 1;
                kindCount++;
            }
        }

        /** The state behind the way home; those who were no guests have what they had. */
        private int stateBehind(int state) {
            int behind = state;
            for (int k = 0; k < leaving.many; k++) {
                int person = leaving.row[k];
                behind += (leaving.took[person] - pairIn(state, person)) * FIVES[person];
            }
            return behind;
        }

        int fewest(int person, int pair) {
            Arrays.fill(steps, NONE);
            queued = 0;
            reach(stateNow(), 0);
            for (int k = 0; k < STATES && k < queued; k++) {
                int state = queue[k];
                if (pairIn(state, person) == pair) {
                    return steps[state];
                }
                for (int guests = 1; guests < 1 << people.many; guests++) {
                    spread(state, guests);
                }
            }
            return NONE;
        }

        private void reach(int state, int evenings) {
            if (steps[state] == NONE && queued < STATES) {
                steps[state] = evenings;
                queue[queued] = state;
                queued++;
            }
        }

        private void spread(int state, int guests) {
            int all = leaving.first(pairsFor(state, guests), guests);
            int from = 0;
            for (int k = 0; k < all; k++) {
                leaving.go(from);
                reach(stateBehind(state), steps[state] + 1);
                from = leaving.advance();
            }
        }

        private int pairsFor(int state, int guests) {
            int pairs = pairsAround();
            for (int person = 0; person < people.many; person++) {
                int pair = pairIn(state, person);
                if (pair != NONE && !isIn(guests, person)) {
                    pairs &= ~(1 << pair);
                }
            }
            return pairs;
        }
    }
}
