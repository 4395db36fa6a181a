import java.lang.reflect.InvocationTargetException;
import java.lang.reflect.Method;
import java.lang.reflect.Modifier;
import java.util.ArrayList;
import java.util.HashMap;
import java.util.List;
import java.util.Map;
import java.util.function.Consumer;
import java.util.regex.Matcher;
import java.util.regex.Pattern;

/**
 * A run of calls on a new object, told as text: calls one behind another, each name(arguments)=answer. A call without
 * an answer makes ready what follows: it may answer anything but a finding. "5*" ahead of a call: five of them, the
 * answer being each one's. MIN and MAX are the least and the greatest int; answers may be findings by their names.
 */
final class Run {
    static final int MOST_CALLS = 512;
    private static final Pattern CALL = Pattern.compile("(?:(\\d+)\\*)?(\\w+)\\(([^)]*)\\)(?:=(\\S+))?");
    private static final Map<String, Method> FACE = face();
    private static final List<String> FINDINGS = List.of("BEYOND", "NONE", "STATE", "FULL", "KIND");

    record Call(String name, int[] arguments, Integer due, String text) {
        boolean isRefused(int answer) {
            // A false secret is the one finding that changes something: the document says so of owed().
            return isFinding(answer) && !(name.equals("owed") && answer == Due.NONE);
        }
    }

    final List<Call> calls = new ArrayList<>();

    Run(String text) {
        Matcher m = CALL.matcher(text);
        int end = 0;
        while (m.find()) {
            needBlank(text.substring(end, m.start()));
            end = m.end();
            int times = m.group(1) == null ? 1 : Integer.parseInt(m.group(1));
            Integer answer = m.group(4) == null ? null : (Integer) number(m.group(4));
            Call call = new Call(m.group(2), numbers(m.group(3)), answer, m.group());
            for (int i = 0; i < times; i++) {
                calls.add(call);
            }
        }
        needBlank(text.substring(end));
        if (calls.isEmpty() || calls.size() > MOST_CALLS) {
            throw new IllegalArgumentException("a run of " + calls.size() + " calls: " + text);
        }
    }

    private static void needBlank(String between) {
        if (!between.isBlank()) {
            throw new IllegalArgumentException("this is no call: " + between);
        }
    }

    private static Map<String, Method> face() {
        Map<String, Method> all = new HashMap<>();
        for (Method m : LostParcels.class.getDeclaredMethods()) {
            if (Modifier.isPublic(m.getModifiers())) {
                all.put(m.getName(), m);
            }
        }
        return all;
    }

    static boolean isFinding(int answer) {
        return answer < -1000000;
    }

    static int number(String text) {
        switch (text) {
            case "MIN": return Integer.MIN_VALUE;
            case "MAX": return Integer.MAX_VALUE;
            default: return FINDINGS.contains(text) ? -1000001 - FINDINGS.indexOf(text) : Integer.parseInt(text);
        }
    }

    private static int[] numbers(String text) {
        if (text.isBlank()) {
            return new int[0];
        }
        String[] parts = text.split(",");
        int[] all = new int[parts.length];
        for (int i = 0; i < parts.length; i++) {
            all[i] = number(parts[i].trim());
        }
        return all;
    }

    static int on(LostParcels x, String name, int... arguments) {
        Object[] boxed = new Object[arguments.length];
        for (int i = 0; i < boxed.length; i++) {
            boxed[i] = arguments[i];
        }
        try {
            return (Integer) FACE.get(name).invoke(x, boxed);
        } catch (InvocationTargetException | IllegalAccessException e) {
            throw new IllegalStateException(name + " failed: " + e.getCause(), e);
        }
    }

    /** Holds the class and the Model against the answers that are due, and tells what isn't so. */
    void hold(Consumer<String> wrong) {
        LostParcels x = new LostParcels();
        Model model = new Model();
        int[] answers = new int[calls.size()];
        for (int i = 0; i < answers.length; i++) {
            Call call = calls.get(i);
            answers[i] = on(x, call.name, call.arguments);
            int modelled = model.call(call.name, call.arguments);
            if (call.due == null ? isFinding(answers[i]) : answers[i] != call.due) {
                wrong.accept("call " + (i + 1) + ", " + call.text + " answered " + answers[i]);
            }
            if (modelled != answers[i]) {
                wrong.accept("call " + (i + 1) + ", " + call.text + " answered " + answers[i]
                        + ", the Model " + modelled);
            }
        }
        holdWithoutRefused(answers, wrong);
    }

    /** The same run without the calls that were refused: nothing else may answer otherwise, but found(). */
    private void holdWithoutRefused(int[] answers, Consumer<String> wrong) {
        LostParcels x = new LostParcels();
        for (int i = 0; i < answers.length; i++) {
            Call call = calls.get(i);
            if (call.name.equals("found") || call.isRefused(answers[i])) {
                continue;
            }
            int answer = on(x, call.name, call.arguments);
            if (answer != answers[i]) {
                wrong.accept("call " + (i + 1) + ", " + call.text + " answered " + answers[i]
                        + ", without the refused calls " + answer);
            }
        }
    }
}
