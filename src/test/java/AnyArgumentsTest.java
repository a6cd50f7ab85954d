import java.lang.reflect.InvocationTargetException;
import java.lang.reflect.Method;
import java.lang.reflect.Modifier;
import java.util.ArrayList;
import java.util.Comparator;
import java.util.List;
import java.util.Set;

/** Any calls with any arguments: none throws, and none that only asks or is refused changes what there is. */
public final class AnyArgumentsTest {
    private static final int[] EDGES = {Integer.MIN_VALUE, Integer.MIN_VALUE + 9, -10, -5, -4, -1, 41, 99, 100, 320,
        9999, 10000, 65536, Integer.MAX_VALUE - 1, Integer.MAX_VALUE};
    private static final Set<String> CHANGING = Set.of("feed", "end", "land", "tell", "part", "clear", "keep", "back",
            "sheet", "lay", "read");
    private static final String[] TEXTS = {"places 5;far 0 1 9;far 0 2 16;far 1 2 25;far 3 4 7;", "places 7;far 6 5 4;",
        "far 0 1 1;far 0 2 1;far 1 2 9;", "oak", "places 2;far 0 1 4;", ""};

    public static void main(String[] args) throws IllegalAccessException {
        List<Method> calls = new ArrayList<>();
        for (Method m : OnlyFar.class.getDeclaredMethods()) {
            if (Modifier.isPublic(m.getModifiers())) {
                calls.add(m);
            }
        }
        calls.sort(Comparator.comparing(Method::getName));
        Check.Lot lot = new Check.Lot(99);
        for (int run = 0; run < 400; run++) {
            OnlyFar x = new OnlyFar();
            for (int call = 0; call < 300; call++) {
                if (lot.below(12) == 0) {
                    Check.feed(x, TEXTS[lot.below(TEXTS.length)]);
                    x.land();
                } else {
                    callOne(x, calls.get(lot.below(calls.size())), lot);
                }
            }
        }
        Check.finish();
    }

    private static void callOne(OnlyFar x, Method m, Check.Lot lot) throws IllegalAccessException {
        Object[] arguments = new Object[m.getParameterCount()];
        for (int i = 0; i < arguments.length; i++) {
            int v = argument(lot);
            arguments[i] = m.getParameterTypes()[i] == long.class ? (Object) (Long) (v * 0x0101010101010101L) : (Object) v;
        }
        String was = Check.state(x);
        try {
            long answer = ((Number) m.invoke(x, arguments)).longValue();
            boolean refused = answer < 0 && answer != OnlyFar.NONE;
            if (!CHANGING.contains(m.getName()) || refused && !m.getName().equals("land")) {
                Check.due(m.getName() + " left all as it was", Check.state(x).equals(was) ? 1 : 0, 1);
            }
        } catch (InvocationTargetException e) {
            e.printStackTrace(System.out);
            Check.due(m.getName() + java.util.Arrays.toString(arguments) + " threw", 1, 0);
        }
    }

    private static int argument(Check.Lot lot) {
        switch (lot.below(10)) {
            case 0:
                return EDGES[lot.below(EDGES.length)];
            case 1:
                return lot.from(1, 40);
            case 2:
                return lot.from(8, 18);
            default:
                return lot.below(6);
        }
    }
}
