import java.lang.reflect.InvocationTargetException;
import java.lang.reflect.Method;
import java.lang.reflect.Modifier;
import java.util.Arrays;
import java.util.Comparator;

/** A new ClassSheets and a PlainModel that are told the same calls, and have to answer the same. */
final class Both {
    static final int MOST_CALLS = 512;

    final PlainModel model = new PlainModel();
    private final ClassSheets sheets = new ClassSheets();
    private final String run;
    private int made = 0;

    Both(String run) {
        this.run = run;
    }

    /** The document's calls, by name: reflection tells them in no order. */
    static Method[] calls() {
        return Arrays.stream(ClassSheets.class.getDeclaredMethods())
            .filter(m -> Modifier.isPublic(m.getModifiers()))
            .sorted(Comparator.comparing(Method::getName)).toArray(Method[]::new);
    }

    static Method named(String name) {
        for (Method call : calls()) {
            if (call.getName().equals(name)) {
                return call;
            }
        }
        throw new IllegalStateException(name);
    }

    int callsMade() {
        return made;
    }

    void make(Method call, Object... with) throws ReflectiveOperationException {
        made++;
        String told = run + ", call " + made + ": " + call.getName() + Arrays.toString(with);
        Method due = PlainModel.class.getMethod(call.getName(), call.getParameterTypes());
        int want = (Integer) due.invoke(model, with);
        try {
            Due.is(told, want, (Integer) call.invoke(sheets, with));
        } catch (InvocationTargetException thrown) {
            Due.holds(told + " does not throw " + thrown.getCause(), false);
        }
    }
}
