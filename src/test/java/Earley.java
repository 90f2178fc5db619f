import java.util.ArrayList;
import java.util.HashMap;
import java.util.LinkedHashSet;
import java.util.List;
import java.util.Map;
import java.util.Set;

/**
 * A grammar, and the first sign at which no text of it can go on. Rules have no empty side.
 * A sign is a name of one letter; any longer name is a rule's.
 */
final class Earley {
    private final Map<String, List<List<String>>> rules = new HashMap<>();

    private record Item(String name, List<String> side, int dot, int from) {
        boolean ended() {
            return dot == side.size();
        }

        Item moved() {
            return new Item(name, side, dot + 1, from);
        }
    }

    /** Sides with // between, parts with blanks between. */
    void rule(String name, String sides) {
        List<List<String>> all = rules.computeIfAbsent(name, k -> new ArrayList<>());
        for (String side : sides.split(" // ")) {
            all.add(List.of(side.trim().split(" +")));
        }
    }

    /** The place of the first wrong sign; the length, if it ends too early; -1: none. */
    int fault(String start, List<String> signs) {
        List<Set<Item>> sets = new ArrayList<>();
        Set<Item> first = new LinkedHashSet<>();
        for (List<String> side : rules.get(start)) {
            first.add(new Item(start, side, 0, 0));
        }
        sets.add(first);
        for (int at = 0; at <= signs.size(); at++) {
            close(sets, at);
            if (at == signs.size()) {
                break;
            }
            Set<Item> next = new LinkedHashSet<>();
            for (Item item : sets.get(at)) {
                if (!item.ended() && item.side.get(item.dot).equals(signs.get(at))) {
                    next.add(item.moved());
                }
            }
            if (next.isEmpty()) {
                return at;
            }
            sets.add(next);
        }
        for (Item item : sets.get(signs.size())) {
            if (item.ended() && item.from == 0 && item.name.equals(start)) {
                return -1;
            }
        }
        return signs.size();
    }

    private void close(List<Set<Item>> sets, int at) {
        List<Item> work = new ArrayList<>(sets.get(at));
        for (int k = 0; k < work.size(); k++) {
            Item item = work.get(k);
            List<Item> more = new ArrayList<>();
            if (item.ended()) {
                for (Item open : sets.get(item.from)) {
                    if (!open.ended() && open.side.get(open.dot).equals(item.name)) {
                        more.add(open.moved());
                    }
                }
            } else if (rules.containsKey(item.side.get(item.dot))) {
                for (List<String> side : rules.get(item.side.get(item.dot))) {
                    more.add(new Item(item.side.get(item.dot), side, 0, at));
                }
            }
            for (Item one : more) {
                if (sets.get(at).add(one)) {
                    work.add(one);
                }
            }
        }
    }
}
