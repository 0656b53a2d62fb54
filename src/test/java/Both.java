import java.lang.reflect.Method;
import java.lang.reflect.Modifier;
import java.util.ArrayList;
import java.util.Arrays;
import java.util.HashMap;
import java.util.List;
import java.util.Map;

/** A desk and the model of the document, on which the same calls are made; their answers must be alike. */
final class Both {
    private static final Map<String, Method> OF_DESK = methodsOf(ApronDesk.class);
    private static final Map<String, Method> OF_MODEL = methodsOf(DeskModel.class);

    private final ApronDesk desk = new ApronDesk();
    private final DeskModel model = new DeskModel();
    private final List<String> log = new ArrayList<>();
    private boolean alike = true;

    private static Map<String, Method> methodsOf(Class<?> type) {
        Map<String, Method> map = new HashMap<>();
        for (Method m : type.getDeclaredMethods()) {
            if (Modifier.isPublic(m.getModifiers())) {
                map.put(m.getName(), m);
            }
        }
        return map;
    }

    Object call(String name, Integer... args) throws ReflectiveOperationException {
        Object got = OF_DESK.get(name).invoke(desk, (Object[]) args);
        Object want = OF_MODEL.get(name).invoke(model, (Object[]) args);
        log.add(name + Arrays.toString(args) + " answered " + got);
        if (!got.equals(want)) {
            alike = false;
            log.add("  but due is " + want);
        }
        return got;
    }

    boolean areAlike() {
        return alike;
    }

    int calls() {
        return log.size();
    }

    void tellAll() {
        log.forEach(System.out::println);
    }
}
