import java.lang.reflect.Field;
import java.lang.reflect.InvocationTargetException;
import java.lang.reflect.Method;
import java.util.List;
import java.util.Map;
import java.util.stream.Collectors;

/** A NetHouse that is asked by words, such as "arc 0 1 2 3", and never more often than the document promises for. */
final class House {
    static final int MOST_CALLS = 512;

    private static final Map<String, Method> CALLS =
        Twin.CALLS.stream().collect(Collectors.toUnmodifiableMap(Method::getName, m -> m));
    private static final List<String> REFUSALS = List.of("BAD", "NO", "FULL", "SPENT");

    private final NetHouse x = new NetHouse();
    private int made = 0;

    /** "raise 0 1000000000" is no call: no run of 512 calls brings so many marks, so they are laid there by hand. */
    int ask(String call) {
        String[] words = call.trim().split("\\s+");
        int[] numbers = new int[words.length - 1];
        for (int i = 0; i < numbers.length; i++) {
            numbers[i] = number(words[i + 1]);
        }
        if (words[0].equals("raise")) {
            return raise(numbers[0], numbers[1]);
        }
        if (made == MOST_CALLS) {
            throw new IllegalStateException("more than " + MOST_CALLS + " calls: " + call);
        }
        made++;
        return invoke(words[0], numbers);
    }

    private int invoke(String name, int[] numbers) {
        Method method = CALLS.get(name);
        if (method == null) {
            throw new IllegalArgumentException("no such call: " + name);
        }
        Object[] boxed = new Object[numbers.length];
        for (int i = 0; i < numbers.length; i++) {
            boxed[i] = numbers[i];
        }
        try {
            return (Integer) method.invoke(x, boxed);
        } catch (InvocationTargetException | IllegalAccessException thrown) {
            throw new IllegalStateException(name, thrown);
        }
    }

    private int raise(int place, int n) {
        try {
            Object now = open(NetHouse.class, "now").get(x);
            ((int[]) open(now.getClass(), "many").get(now))[place] = n;
            return 0;
        } catch (ReflectiveOperationException wrong) {
            throw new IllegalStateException("the class holds its marks otherwise now", wrong);
        }
    }

    private static Field open(Class<?> type, String name) throws NoSuchFieldException {
        Field field = type.getDeclaredField(name);
        field.setAccessible(true);
        return field;
    }

    static int number(String word) {
        return switch (word) {
            case "BAD" -> Due.BAD;
            case "NO" -> Due.NO;
            case "FULL" -> Due.FULL;
            case "SPENT" -> Due.SPENT;
            case "NONE" -> Due.NONE;
            case "ENDLESS" -> Due.ENDLESS;
            case "MIN" -> Integer.MIN_VALUE;
            case "MAX" -> Integer.MAX_VALUE;
            default -> Integer.parseInt(word);
        };
    }

    static boolean isRefusal(int answer) {
        return REFUSALS.stream().anyMatch(word -> number(word) == answer);
    }
}
