import java.lang.reflect.InvocationTargetException;
import java.util.Arrays;
import java.util.Map;
import java.util.regex.Matcher;
import java.util.regex.Pattern;

/**
 * Runs of calls written as a text, with blanks between its steps:
 * "wind(9)=12" is a call and the answer that is due, "wind(9)" a call whose answer is not looked at,
 * "5*wind(9)" five such calls, "<e09,>" writes these letters, "[e09,r18;251]" writes them and reads the kitchen.
 */
final class Script {
    /** The document promises nothing of an object behind so many calls. */
    private static final int MOST_CALLS = 512;
    private static final Pattern CALL = Pattern.compile("(?:(\\d+)\\*)?(\\w+)\\(([^)]*)\\)(?:=(\\S+))?");
    private static final Map<String, Long> NAMED =
        Map.of("NONE", -1L, "UNKNOWN", -101L, "OUTSIDE", -102L, "STATE", -103L, "FULL", -104L);

    private final String name;
    private final OneTimer timer = new OneTimer();
    private int calls = 0;

    private Script(String name) {
        this.name = name;
    }

    /** Runs the steps on a new object, and gives back the object. */
    static OneTimer run(String name, String steps) {
        Script script = new Script(name + " | " + steps);
        for (String step : steps.trim().split("\\s+")) {
            script.step(step);
        }
        if (script.calls > MOST_CALLS) {
            Asked.wrong(script.name + ": the run itself has " + script.calls + " calls");
        }
        return script.timer;
    }

    private void step(String step) {
        if (step.isEmpty()) {
            return;
        }
        char first = step.charAt(0);
        if (first == '<' || first == '[') {
            String text = step.substring(1, step.length() - 1);
            write(text);
            if (first == '[') {
                call("kitchen", "", Long.toString(text.length() / 4));
            }
            return;
        }
        Matcher call = CALL.matcher(step);
        if (!call.matches()) {
            Asked.wrong(name + ": " + step + " is no step");
            return;
        }
        int times = call.group(1) == null ? 1 : Integer.parseInt(call.group(1));
        for (int n = 0; n < times; n++) {
            call(call.group(2), call.group(3), call.group(4));
        }
    }

    private void write(String text) {
        for (int i = 0; i < text.length(); i++) {
            call("letter", Integer.toString(text.charAt(i)), null);
        }
    }

    private void call(String method, String numbers, String want) {
        calls++;
        long got = ask(timer, method + "(" + numbers + ")");
        if (want != null) {
            Asked.due(name + ": " + method + "(" + numbers + ")", got, number(want));
        }
    }

    static long number(String text) {
        Long named = NAMED.get(text);
        return named != null ? named : Long.parseLong(text);
    }

    /** Asks one call, as "wind(9)"; no call of the face may throw, so one that does is wrong. */
    static long ask(OneTimer timer, String call) {
        int open = call.indexOf('(');
        String inside = call.substring(open + 1, call.length() - 1);
        Object[] numbers = inside.isEmpty() ? new Object[0]
            : Arrays.stream(inside.split(",")).map(Integer::valueOf).toArray();
        Class<?>[] types = new Class<?>[numbers.length];
        Arrays.fill(types, int.class);
        try {
            return ((Number) OneTimer.class.getMethod(call.substring(0, open), types).invoke(timer, numbers)).longValue();
        } catch (InvocationTargetException thrown) {
            Asked.wrong(call + " threw " + thrown.getCause());
            return Long.MIN_VALUE;
        } catch (ReflectiveOperationException none) {
            throw new IllegalArgumentException(call, none);
        }
    }
}
