import java.lang.reflect.InvocationTargetException;
import java.lang.reflect.Method;
import java.lang.reflect.Modifier;
import java.util.Arrays;
import java.util.Comparator;
import java.util.NoSuchElementException;
import java.util.Random;
import java.util.Set;

/** Any numbers whatever: nothing is thrown but by person(), and what is refused, or only asked, changes nothing. */
public final class WildTest {
    private static final int RUNS = 250;
    private static final Set<String> CHANGING =
            Set.of("feed", "end", "text", "rule", "evening", "year", "sight", "image", "back");
    private static final int[] EDGES = {Integer.MIN_VALUE, Integer.MIN_VALUE + 1, -1000000000, -65, -11, -2, -1, 0, 1,
        2, 3, 4, 5, 6, 7, 9, 10, 12, 13, 14, 20, 31, 32, 50, 63, 64, 99, 100, 210, 12345, 543210, 1 << 30,
        Integer.MAX_VALUE - 1, Integer.MAX_VALUE};

    private final Random random;
    private final BestPair x = new BestPair();

    private WildTest(int seed) {
        random = new Random(seed);
    }

    public static void main(String[] args) throws IllegalAccessException {
        Method[] methods = Arrays.stream(BestPair.class.getDeclaredMethods())
                .filter(m -> Modifier.isPublic(m.getModifiers()))
                .sorted(Comparator.comparing(Method::getName)).toArray(Method[]::new);
        for (int seed = 0; seed < RUNS; seed++) {
            new WildTest(seed).play(methods);
        }
        Check.end("WildTest");
    }

    private void play(Method[] methods) throws IllegalAccessException {
        for (int k = 0; k < 200; k++) {
            int what = random.nextInt(40);
            if (what == 0) {
                Check.tape(x, ModelTest.peopleText(random, 2 + random.nextInt(5)));
            } else if (what == 1) {
                Check.tape(x, ModelTest.ruleText(random));
            } else if (what == 2) {
                x.text(0);
            } else {
                call(methods[random.nextInt(methods.length)]);
            }
        }
    }

    private Object argument(Class<?> type) {
        if (type == long.class) {
            return random.nextLong();
        }
        int sort = random.nextInt(10);
        return sort < 2 ? EDGES[random.nextInt(EDGES.length)] : sort == 2 ? random.nextInt() : random.nextInt(8);
    }

    private void call(Method m) throws IllegalAccessException {
        Object[] values = new Object[m.getParameterCount()];
        for (int k = 0; k < values.length; k++) {
            values[k] = argument(m.getParameterTypes()[k]);
        }
        String told = m.getName() + Arrays.toString(values);
        String before = state();
        Object answer = null;
        boolean good = true;
        try {
            answer = m.invoke(x, values);
        } catch (InvocationTargetException e) {
            good = m.getName().equals("person") && e.getCause().getClass() == NoSuchElementException.class;
        }
        Check.due(told + " throws nothing else", good, true);
        boolean refused = Integer.valueOf(-1).equals(answer) || Boolean.FALSE.equals(answer);
        if (refused || !CHANGING.contains(m.getName())) {
            Check.due(told + " changes nothing", before.equals(state()), true);
        }
    }

    private String state() {
        StringBuilder text = new StringBuilder();
        for (int what = 0; what < 6; what++) {
            text.append(x.count(what)).append(' ');
        }
        text.append(x.fault(0)).append(' ').append(x.fault(1)).append(' ').append(x.agree()).append(' ').append(x.lost());
        for (int k = 0; k < x.count(0); k++) {
            for (int what = 0; what < 7; what++) {
                text.append(' ').append(x.person(k, what));
            }
            for (int what = 0; what < 3; what++) {
                text.append(' ').append(x.pair(k, what));
            }
            for (int i = 0; i < x.count(3); i++) {
                text.append(' ').append(x.been(k, i));
            }
        }
        return text.toString();
    }
}
