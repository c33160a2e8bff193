import java.lang.reflect.Method;
import java.util.HashMap;
import java.util.Map;

/**
 * One new object and the rows of calls that are made on it. A row is a call with its answer or without it
 * ("pass 40 = 40", "best 0"), with how often it is made ahead of it ("9 x pass 1"); "text c0,0,1,0;" writes letter by
 * letter, "stand 2 1" asks in which state callers 0, 1, .. are, "bears MAX 0" has a number that is told by its name.
 */
final class Script {
    private static final int MOST_CALLS = 512;
    private static final Map<String, Method> CALLS = new HashMap<>();
    private static final Map<String, Integer> NAMES = Map.of("BAD", Check.BAD, "NO", Check.NO, "FULL", Check.FULL,
        "NONE", Check.NONE, "MAX", Integer.MAX_VALUE, "MIN", Integer.MIN_VALUE);

    static {
        for (Method method : NumberEleven.class.getDeclaredMethods()) {
            CALLS.put(method.getName(), method);
        }
    }

    private final NumberEleven x = new NumberEleven();
    private final Check check;
    private final String title;
    private int calls;

    Script(Check check, String title) {
        this.check = check;
        this.title = title;
    }

    /** Lays other callers than those that a new object has. */
    void lay(String text) {
        perform("text " + text);
        if (ask("lay") < 1) {
            check.due(title + ": this text cannot be laid: " + text, 0, 1);
        }
    }

    void perform(String row) {
        String[] sides = row.split(" = ");
        String[] words = sides[0].split(" x ");
        int times = words.length == 2 ? Integer.parseInt(words[0]) : 1;
        String call = words[words.length - 1];
        if (call.startsWith("text ")) {
            write(call.substring(5));
        } else if (call.startsWith("stand ")) {
            stand(row, call.substring(6).split(" "));
        } else {
            for (int i = 0; i < times; i++) {
                long got = ask(call);
                if (sides.length == 2) {
                    check.due(title + ": " + call, got, number(sides[1]));
                }
            }
        }
    }

    int ask(String call) {
        calls++;
        if (calls > MOST_CALLS) {
            throw new IllegalStateException(title + ": more calls than an object is used for");
        }
        String[] words = call.split(" ");
        Object[] numbers = new Object[words.length - 1];
        for (int i = 0; i < numbers.length; i++) {
            numbers[i] = number(words[i + 1]);
        }
        try {
            return (int) CALLS.get(words[0]).invoke(x, numbers);
        } catch (ReflectiveOperationException | RuntimeException e) {
            throw new IllegalStateException(title + ": " + call, e);
        }
    }

    private void write(String text) {
        int length = ask("count 12");
        for (int i = 0; i < text.length(); i++) {
            length++;
            check.due(title + ": write " + text.charAt(i), ask("write " + (int) text.charAt(i)), length);
        }
    }

    private void stand(String row, String[] states) {
        for (int c = 0; c < states.length; c++) {
            check.due(title + ": " + row + ": caller " + c + " 4", ask("caller " + c + " 4"), number(states[c]));
        }
    }

    private static int number(String word) {
        return NAMES.containsKey(word) ? NAMES.get(word) : Integer.parseInt(word);
    }
}
