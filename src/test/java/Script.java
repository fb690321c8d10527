import java.lang.reflect.InvocationTargetException;
import java.lang.reflect.Method;
import java.util.ArrayList;
import java.util.HashMap;
import java.util.List;
import java.util.Map;
import java.util.regex.Matcher;
import java.util.regex.Pattern;

/** One object, called by names; it is called no more often than the document lets it be. */
final class Script {
    private static final int MOST_CALLS = 512;
    private static final Map<String, Method> CALLS = callsByName();
    /** What a shelf is to hold: a text, numbers of a sort, or a laying's kind and figure. */
    private static final Pattern HELD = Pattern.compile("(?:(\\d):)?(?:\"(.*)\"|\\[(.*)\\]([bs]?)|<(\\d) (\\d)>)");

    private final SlateRows x = new SlateRows();
    private int calls = 0;

    private static Map<String, Method> callsByName() {
        Map<String, Method> found = new HashMap<>();
        for (Method m : SlateRows.class.getMethods()) {
            if (m.getDeclaringClass() == SlateRows.class) {
                found.put(m.getName(), m);
            }
        }
        return found;
    }

    /** The answer as a text, so that an exception is one too. */
    String answer(String name, int... arguments) {
        calls++;
        if (calls > MOST_CALLS) {
            throw new AssertionError("more than " + MOST_CALLS + " calls of one object");
        }
        Method method = CALLS.get(name);
        if (method == null || method.getParameterCount() != arguments.length) {
            throw new AssertionError("no call " + name + " of " + arguments.length);
        }
        Object[] boxed = new Object[arguments.length];
        for (int i = 0; i < boxed.length; i++) {
            boxed[i] = arguments[i];
        }
        try {
            return String.valueOf(method.invoke(x, boxed));
        } catch (InvocationTargetException e) {
            return "throws." + e.getCause().getClass().getSimpleName();
        } catch (IllegalAccessException e) {
            throw new AssertionError(e);
        }
    }

    /** The number that an argument tells; what a shelf is to hold is put there, and the shelf is the number. */
    int number(String argument) {
        Matcher held = HELD.matcher(argument);
        if (held.matches()) {
            return shelfWith(held);
        }
        switch (argument) {
            case "MIN": return Integer.MIN_VALUE;
            case "MAX": return Integer.MAX_VALUE;
            default: return Integer.parseInt(argument);
        }
    }

    private int shelfWith(Matcher held) {
        int given = held.group(1) == null ? -1 : Integer.parseInt(held.group(1));
        if (held.group(2) != null) {
            return putNumbers(given < 0 ? 7 : given, 0, held.group(2).chars().toArray());
        }
        if (held.group(3) != null) {
            int sort = held.group(4).isEmpty() ? 2 : held.group(4).equals("s") ? 1 : 0;
            return putNumbers(given < 0 ? 6 : given, sort, numbers(held.group(3)));
        }
        int d = given < 0 ? 5 : given;
        mustBeWell(answer("keep", d, 1, Integer.parseInt(held.group(5)), Integer.parseInt(held.group(6))));
        return d;
    }

    private int[] numbers(String text) {
        String[] parts = text.isBlank() ? new String[0] : text.trim().split(" +");
        int[] found = new int[parts.length];
        for (int i = 0; i < parts.length; i++) {
            found[i] = number(parts[i]);
        }
        return found;
    }

    private int putNumbers(int d, int sort, int[] values) {
        mustBeWell(answer("row", d, sort, values.length));
        for (int i = 0; i < values.length; i++) {
            if (values[i] != 0) {
                mustBeWell(answer("put", d, i, values[i]));
            }
        }
        return d;
    }

    private static void mustBeWell(String answer) {
        if (!answer.equals("0")) {
            throw new AssertionError("a shelf could not be filled: " + answer);
        }
    }

    /** All that can be seen of the object, also of its image, which is restored by it. */
    List<String> state() {
        List<String> seen = new ArrayList<>();
        seeShelves(seen);
        seeRoof(seen);
        see(seen, "restore");
        seeRoof(seen);
        return seen;
    }

    private String see(List<String> seen, String name, int... arguments) {
        String answer = answer(name, arguments);
        seen.add(told(name, arguments) + " = " + answer);
        return answer;
    }

    static String told(String name, int... arguments) {
        StringBuilder text = new StringBuilder(name).append('(');
        for (int i = 0; i < arguments.length; i++) {
            text.append(i == 0 ? "" : ", ").append(arguments[i]);
        }
        return text.append(')').toString();
    }

    private void seeRoof(List<String> seen) {
        int widths = Integer.parseInt(see(seen, "count", 0));
        int rows = Integer.parseInt(see(seen, "count", 1));
        see(seen, "count", 2);
        for (int w = 0; w < widths; w++) {
            for (int what = 0; what < 3; what++) {
                see(seen, "width", w, what);
            }
        }
        for (int row = 0; row < rows; row++) {
            see(seen, "rowOf", row, 0);
            int slates = Integer.parseInt(see(seen, "rowOf", row, 1));
            for (int i = 0; i < slates; i++) {
                see(seen, "slate", row, i);
            }
        }
    }

    private void seeShelves(List<String> seen) {
        List<Integer> withNumbers = new ArrayList<>();
        for (int d = 0; d < 8; d++) {
            see(seen, "toss", d);
            if (see(seen, "toil", d).equals("-1000000012")) {
                withNumbers.add(d);
                int i = 0;
                while (!see(seen, "element", d, i).startsWith("throws")) {
                    i++;
                }
            }
        }
        // two rows of numbers can be copied, even if it is nothing, only if they are of one sort
        for (int k = 1; k < withNumbers.size(); k++) {
            see(seen, "copy", withNumbers.get(k - 1), 0, withNumbers.get(k), 0, 0);
        }
    }
}
