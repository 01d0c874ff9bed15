import java.lang.reflect.InvocationTargetException;
import java.lang.reflect.Method;
import java.util.ArrayList;
import java.util.HashMap;
import java.util.List;
import java.util.Map;

/** A call of the face that is told as a text, such as "hut(4, NONE, 6)", and made on any object. */
final class Call {
    private static final Map<String, Method> FACE = new HashMap<>();

    static {
        for (Method method : HutRow.class.getMethods()) {
            FACE.put(method.getName(), method);
        }
    }

    final String name;
    private final Object[] numbers;

    private Call(String name, Object... numbers) {
        this.name = name;
        this.numbers = numbers;
    }

    /**
     * The calls that a text tells: one, or for "tape('..')" those that put these bytes on an empty TAPE, and for
     * "read(sort, '..')" the reading of them too.
     */
    static List<Call> told(String text) {
        String name = text.substring(0, text.indexOf('('));
        String inner = text.substring(name.length() + 1, text.length() - 1);
        List<Call> calls = new ArrayList<>();
        if (name.equals("tape") || name.equals("read")) {
            addTape(calls, inner.substring(inner.indexOf('\'') + 1, inner.length() - 1));
            if (name.equals("read")) {
                calls.add(new Call("text", number(inner.substring(0, inner.indexOf(',')))));
            }
            return calls;
        }
        List<Object> numbers = new ArrayList<>();
        for (String one : inner.isEmpty() ? new String[0] : inner.split(",")) {
            numbers.add(number(one.trim()));
        }
        calls.add(new Call(name, numbers.toArray()));
        return calls;
    }

    private static Object number(String told) {
        switch (told) {
            case "true":
            case "false":
                return told.equals("true");
            case "NONE":
                return HutRow.NONE;
            case "LEAST":
                return Integer.MIN_VALUE;
            case "MOST":
                return Integer.MAX_VALUE;
            default:
                return Long.decode(told).intValue();
        }
    }

    private static void addTape(List<Call> calls, String text) {
        calls.add(new Call("end", 0));
        for (int from = 0; from < text.length(); from += 20) {
            Object[] numbers = new Object[5];
            for (int i = 0; i < 5; i++) {
                int number = 0;
                for (int j = from + 4 * i; j < from + 4 * i + 4; j++) {
                    number = number << 8 | (j < text.length() ? text.charAt(j) & 255 : 'z');
                }
                numbers[i] = number;
            }
            calls.add(new Call("feed", numbers));
        }
        calls.add(new Call("end", text.length()));
    }

    /** Its answer as a text; "throws IllegalArgument" if it throws that, "done" if it answers nothing. */
    String on(HutRow x) {
        Method method = FACE.get(name);
        try {
            Object answer = method.invoke(x, numbers);
            return method.getReturnType() == void.class ? "done" : String.valueOf(answer);
        } catch (InvocationTargetException thrown) {
            return "throws " + thrown.getCause().getClass().getSimpleName().replaceAll("Exception$", "");
        } catch (IllegalAccessException | IllegalArgumentException | NullPointerException wrong) {
            throw new IllegalStateException("no such call: " + this, wrong);
        }
    }

    Object[] numbers() {
        return numbers.clone();
    }

    int[] ints() {
        int[] ints = new int[numbers.length];
        for (int i = 0; i < ints.length; i++) {
            ints[i] = (Integer) numbers[i];
        }
        return ints;
    }

    @Override
    public String toString() {
        StringBuilder told = new StringBuilder(name).append('(');
        for (int i = 0; i < numbers.length; i++) {
            told.append(i > 0 ? ", " : "").append(numbers[i]);
        }
        return told.append(')').toString();
    }
}
