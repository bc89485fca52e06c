import java.lang.reflect.InvocationTargetException;
import java.lang.reflect.Method;
import java.lang.reflect.Modifier;
import java.util.Arrays;
import java.util.Comparator;
import java.util.List;
import java.util.stream.Collectors;
import java.util.stream.Stream;

/** A NetHouse and a PlainHouse that are asked the same, call by call. */
final class Twin {
    static final List<Method> CALLS = Stream.of(NetHouse.class.getDeclaredMethods())
        .filter(m -> Modifier.isPublic(m.getModifiers()))
        .sorted(Comparator.comparing(Method::getName))
        .collect(Collectors.toUnmodifiableList());

    private final Due due;
    private final String name;
    private final NetHouse x = new NetHouse();
    private final PlainHouse y = new PlainHouse();
    private int made = 0;

    Twin(Due due, String name) {
        this.due = due;
        this.name = name;
    }

    int made() {
        return made;
    }

    int count(int what) {
        return x.count(what);
    }

    int ask(String call, int... arguments) {
        for (Method m : CALLS) {
            if (m.getName().equals(call)) {
                return ask(m, arguments);
            }
        }
        throw new IllegalArgumentException(call);
    }

    int ask(Method m, int... arguments) {
        Object[] boxed = Arrays.stream(arguments).boxed().toArray();
        made++;
        due.part(name + ", call " + made);
        String call = m.getName() + Arrays.toString(arguments);
        try {
            int want = (Integer) PlainHouse.class.getMethod(m.getName(), m.getParameterTypes()).invoke(y, boxed);
            int got = (Integer) m.invoke(x, boxed);
            due.is(call, got, want);
            return want;
        } catch (InvocationTargetException thrown) {
            due.holds(call + " threw " + thrown.getCause(), false);
        } catch (ReflectiveOperationException wrong) {
            due.holds(call + " is not there: " + wrong, false);
        }
        return 0;
    }
}
