import java.lang.reflect.Method;
import java.lang.reflect.Modifier;
import java.util.ArrayList;
import java.util.HashMap;
import java.util.List;
import java.util.Map;

/**
 * Runs of calls on new objects, told as text:
 * {@code type 1 2 = 0 | 3 x sell 0 0 4 | ! sell 0 0 3 = -2 | tape 'fare 1 1;' | laws = 1}.
 *
 * <p>A call without an answer that is due must not be refused: it answers 0 or more. A call behind
 * "!" must change nothing: all that can be seen of the object is as it was without that call.
 * "tape" puts a text behind THE TAPE. "up" and "down" are ways, MIN and MAX the ends of int.
 */
final class Script {
    /** No object is used for more calls than the document tells. */
    private static final int MOST_CALLS = 512;
    private static final Map<String, Method> METHODS = methods();

    private record Call(int times, boolean changesNothing, String told, String name,
            String[] words, String text, Long due) {
    }

    private final TramPence x = new TramPence();
    private int calls;

    private Script() {
    }

    /** One sentence of the document, and calls that tell whether it holds. */
    static void holds(String sentence, String... parts) {
        Check.sentence(sentence);
        List<Call> calls = read(String.join(" | ", parts));
        new Script().check(calls);
        for (int i = 0; i < calls.size(); i++) {
            if (calls.get(i).changesNothing) {
                same(calls.get(i).told, calls.subList(0, i), calls.subList(0, i + 1));
            }
        }
    }

    /** After both runs of calls all that can be seen is the same. */
    static void alike(String sentence, String one, String other) {
        Check.sentence(sentence);
        same(one + " as " + other, read(one), read(other));
    }

    private static void same(String what, List<Call> one, List<Call> other) {
        int left = MOST_CALLS - Math.max(made(one).calls, made(other).calls);
        List<String> before = Sight.of(() -> made(one), left);
        List<String> after = Sight.of(() -> made(other), left);
        Check.holds(what + ": seen are " + before.size() + " answers", !before.isEmpty());
        Check.due(what + ": how many answers are seen", after.size(), before.size());
        for (int i = 0; i < Math.min(before.size(), after.size()); i++) {
            if (!before.get(i).equals(after.get(i))) {
                Check.holds(what + ": seen is " + after.get(i) + ", not " + before.get(i), false);
                return;
            }
        }
    }

    private static Script made(List<Call> calls) {
        Script s = new Script();
        for (Call call : calls) {
            for (int i = 0; i < call.times; i++) {
                s.perform(call);
            }
        }
        return s;
    }

    private void check(List<Call> calls) {
        for (Call call : calls) {
            for (int i = 0; i < call.times; i++) {
                long answer = perform(call);
                if (call.due != null) {
                    Check.due(call.told, answer, call.due);
                } else {
                    Check.holds(call.told + " is not refused, but answered " + answer, answer >= 0);
                }
            }
        }
    }

    private long perform(Call call) {
        if (call.text != null) {
            return write(call.text);
        }
        Class<?>[] types = METHODS.get(call.name).getParameterTypes();
        Object[] arguments = new Object[types.length];
        for (int i = 0; i < types.length; i++) {
            arguments[i] = argument(types[i], call.words[i]);
        }
        return ask(call.name, arguments);
    }

    private long write(String text) {
        int had = (int) ask("count", 7);
        for (int i = 0; i < text.length(); i += 8) {
            long v = 0;
            for (int j = i; j < i + 8; j++) {
                v = v << 8 | (j < text.length() ? text.charAt(j) & 255 : 0);
            }
            ask("feed", v);
        }
        ask("end", had + text.length());
        return ask("count", 7);
    }

    long ask(String name, Object... arguments) {
        if (calls >= MOST_CALLS) {
            throw new IllegalStateException("too many calls for one object");
        }
        calls++;
        try {
            return (int) METHODS.get(name).invoke(x, arguments);
        } catch (ReflectiveOperationException e) {
            throw new IllegalStateException(name, e);
        }
    }

    private static Object argument(Class<?> type, String word) {
        switch (word) {
            case "up":
                return true;
            case "down":
                return false;
            case "MIN":
                return Integer.MIN_VALUE;
            case "MAX":
                return Integer.MAX_VALUE;
            default:
                if (type == long.class) {
                    return Long.decode(word);
                }
                return Integer.decode(word);
        }
    }

    private static List<Call> read(String text) {
        List<Call> calls = new ArrayList<>();
        for (String told : text.split("\\|")) {
            calls.add(readCall(told.trim()));
        }
        return calls;
    }

    private static Call readCall(String told) {
        int quote = told.indexOf('\'');
        String text = null;
        String rest = told;
        if (quote >= 0) {
            int end = told.lastIndexOf('\'');
            text = told.substring(quote + 1, end);
            rest = told.substring(0, quote) + told.substring(end + 1);
        }
        Long due = null;
        int equals = rest.indexOf('=');
        if (equals >= 0) {
            due = Long.decode(rest.substring(equals + 1).trim());
            rest = rest.substring(0, equals);
        }
        rest = rest.trim();
        int times = 1;
        if (rest.matches("\\d+ x .*")) {
            times = Integer.parseInt(rest.substring(0, rest.indexOf(' ')));
            rest = rest.substring(rest.indexOf(" x ") + 3);
        }
        boolean changesNothing = rest.startsWith("! ");
        rest = changesNothing ? rest.substring(2) : rest;
        String[] words = rest.split(" +");
        String[] arguments = java.util.Arrays.copyOfRange(words, 1, words.length);
        Method method = METHODS.get(words[0]);
        boolean known = text != null ? words[0].equals("tape")
                : method != null && method.getParameterCount() == arguments.length;
        if (!known) {
            throw new IllegalArgumentException("no such call: " + told);
        }
        return new Call(times, changesNothing, told, words[0], arguments, text, due);
    }

    private static Map<String, Method> methods() {
        Map<String, Method> methods = new HashMap<>();
        for (Method m : TramPence.class.getDeclaredMethods()) {
            if (Modifier.isPublic(m.getModifiers())) {
                methods.put(m.getName(), m);
            }
        }
        return methods;
    }
}
