import java.lang.reflect.InvocationTargetException;
import java.lang.reflect.Method;
import java.lang.reflect.Modifier;
import java.util.Map;
import java.util.Set;
import java.util.TreeMap;
import java.util.TreeSet;

/** A new object and calls on it, each written as a text: its name and its arguments, one blank between them. */
final class Run {
    /** The document promises nothing about later calls. */
    static final int MOST_CALLS = 512;
    private static final Map<String, Method> CALLS = calls();
    private static final Map<String, Set<Long>> BELOW_NOUGHT = new TreeMap<>();

    private final OnlyFar far = new OnlyFar();
    private int made = 0;

    /** The call must give the answer; the run goes on. */
    Run due(String call, long want) {
        Check.due(call + " as call " + (made + 1), ask(call), want);
        return this;
    }

    /** The call is made, whatever it answers. */
    Run call(String call) {
        ask(call);
        return this;
    }

    long ask(String call) {
        made++;
        if (made > MOST_CALLS) {
            Check.due("calls of one run", made, MOST_CALLS);
        }
        String[] words = call.split(" ");
        Method method = CALLS.get(words[0]);
        Object[] arguments = new Object[words.length - 1];
        for (int i = 0; i < arguments.length; i++) {
            arguments[i] = argument(words[i + 1], method.getParameterTypes()[i]);
        }
        try {
            long answer = ((Number) method.invoke(far, arguments)).longValue();
            if (answer < 0) {
                BELOW_NOUGHT.computeIfAbsent(words[0], name -> new TreeSet<>()).add(answer);
            }
            return answer;
        } catch (InvocationTargetException e) {
            e.getCause().printStackTrace(System.out);
            Check.due(call + " threw", 1, 0);
            return Long.MIN_VALUE;
        } catch (IllegalAccessException e) {
            throw new IllegalStateException(e);
        }
    }

    /** The answers below 0 that the call has given in all runs. */
    static Set<Long> belowNought(String name) {
        return BELOW_NOUGHT.getOrDefault(name, Set.of());
    }

    int made() {
        return made;
    }

    /** Puts the text behind the tape (characters 0 to 255). */
    Run feed(String text) {
        long had = ask("count 4");
        for (int i = 0; i < text.length(); i += 8) {
            long word = 0;
            for (int j = 0; j < 8; j++) {
                word = word << 8 | (i + j < text.length() ? text.charAt(i + j) : ' ');
            }
            call("feed " + word);
        }
        return text.length() % 8 == 0 ? this : call("end " + (had + text.length()));
    }

    /** A new run whose land is told by a text, which must be taken. */
    static Run of(String text) {
        Run run = new Run().feed(text);
        Check.due("lines of '" + text + "'", run.ask("land"), text.chars().filter(c -> c == ';').count());
        return run;
    }

    /** All of the state that can be asked without a change, but for fault(). */
    String state() {
        StringBuilder all = new StringBuilder();
        for (int what = 0; what < 6; what++) {
            all.append(ask("count " + what)).append(' ');
        }
        long places = ask("count 0");
        for (int b = 1; b < places; b++) {
            for (int a = 0; a < b; a++) {
                all.append(ask("far " + a + " " + b)).append(' ');
            }
        }
        return all.append(ask("torn")).append(' ').append(ask("road 0")).append(' ').append(ask("road 1")).append('\n')
                .toString();
    }

    private static Object argument(String word, Class<?> type) {
        long v = switch (word) {
            case "MIN" -> Integer.MIN_VALUE;
            case "MAX" -> Integer.MAX_VALUE;
            case "NONE" -> OnlyFar.NONE;
            default -> Long.parseLong(word);
        };
        return type == long.class ? (Object) v : (Object) (int) v;
    }

    private static Map<String, Method> calls() {
        Map<String, Method> found = new TreeMap<>();
        for (Method m : OnlyFar.class.getDeclaredMethods()) {
            if (Modifier.isPublic(m.getModifiers())) {
                found.put(m.getName(), m);
            }
        }
        return found;
    }
}
