import java.lang.reflect.InvocationTargetException;
import java.lang.reflect.Method;
import java.lang.reflect.Modifier;
import java.util.Arrays;
import java.util.Map;
import java.util.Set;
import java.util.TreeMap;

/** The program and PlainRiver side by side: each call is made in both, and has to have the same answer or exception. */
final class Pair {
    /** How often each method has answered, in all pairs. */
    static final Map<String, Integer> ANSWERED = new TreeMap<>();

    /** The calls that only look. */
    private static final Set<String> LOOKS = Set.of("day", "acceptedShare", "present", "owner", "total", "totalAnew",
            "counted", "meanValue", "record", "recordAnew", "source", "isSound", "waitingAt", "state", "stage", "lastDay",
            "waits", "isAsked", "value", "answers", "carried", "reason", "root", "rootVersion", "causes");

    private static final Map<String, Method> OURS = new TreeMap<>();
    private static final Map<String, Method> THEIRS = new TreeMap<>();

    final PlainRiver plain = new PlainRiver();
    private final FormRiver river = new FormRiver();
    private final StringBuilder told = new StringBuilder();

    static {
        for (Method method : FormRiver.class.getDeclaredMethods()) {
            if (Modifier.isPublic(method.getModifiers())) {
                OURS.put(method.getName(), method);
                THEIRS.put(method.getName(), plainMethod(method));
            }
        }
    }

    private static Method plainMethod(Method method) {
        try {
            return PlainRiver.class.getMethod(method.getName(), method.getParameterTypes());
        } catch (NoSuchMethodException e) {
            throw new IllegalStateException(e);
        }
    }

    static Set<String> names() {
        return OURS.keySet();
    }

    static Class<?>[] parametersOf(String name) {
        return OURS.get(name).getParameterTypes();
    }

    static boolean isLook(String name) {
        return LOOKS.contains(name);
    }

    /** Makes a call, and tells whether both have the same answer. */
    boolean same(String name, Object... arguments) {
        Object want = outcome(THEIRS.get(name), plain, arguments);
        return isSame(want, outcome(OURS.get(name), river, arguments), name, arguments);
    }

    /** Makes a call, and tells whether it is refused. */
    boolean refuses(String name, Object... arguments) {
        Object want = outcome(THEIRS.get(name), plain, arguments);
        isSame(want, outcome(OURS.get(name), river, arguments), name, arguments);
        return want instanceof Class;
    }

    private boolean isSame(Object want, Object got, String name, Object[] arguments) {
        boolean isSame = want.equals(got);
        if (!LOOKS.contains(name) || !isSame) {
            told.append(name).append(Arrays.toString(arguments)).append(" -> ").append(want);
            told.append(isSame ? "\n" : ", but got " + got + "\n");
        }
        if (!(got instanceof Class)) {
            ANSWERED.merge(name, 1, Integer::sum);
        }
        Checks.check(isSame, isSame ? "" : name + Arrays.toString(arguments) + ": " + want, isSame ? "" : String.valueOf(got));
        return isSame;
    }

    private static Object outcome(Method method, Object object, Object[] arguments) {
        try {
            return method.invoke(object, arguments);
        } catch (InvocationTargetException e) {
            boolean isSpoilt = object instanceof FormRiver && !Checks.isThrownByProgram(e.getCause());
            return isSpoilt ? "not thrown by the program: " + e.getCause() : e.getCause().getClass();
        } catch (IllegalAccessException e) {
            throw new IllegalStateException(e);
        }
    }

    /** Returns the calls that were made, but for those that only looked. */
    String told() {
        return told.toString();
    }

    boolean lookAtAll() {
        boolean isSame = same("day") & same("acceptedShare");
        for (int form = -1; form < 4; form++) {
            isSame &= same("present", form);
        }
        for (int meaning = -1; meaning < 17; meaning++) {
            for (String name : new String[] {"owner", "total", "totalAnew", "counted", "meanValue"}) {
                isSame &= same(name, meaning);
            }
            for (int person = -1; person < 7; person++) {
                for (String name : new String[] {"record", "recordAnew", "source"}) {
                    isSame &= same(name, person, meaning);
                }
            }
        }
        for (int number = -1; number < 7; number++) {
            isSame &= same("isSound", number);
            for (int rank = -1; rank < 6; rank++) {
                isSame &= same("waitingAt", number, rank);
            }
        }
        for (int submission = -1; submission < 25; submission++) {
            isSame &= lookAt(submission);
        }
        return isSame;
    }

    private boolean lookAt(int submission) {
        boolean isSame = true;
        for (String name : new String[] {"state", "stage", "lastDay"}) {
            isSame &= same(name, submission);
        }
        for (int desk = -1; desk < 7; desk++) {
            isSame &= same("waits", submission, desk);
        }
        for (int question = -1; question < 9; question++) {
            for (String name : new String[] {"isAsked", "value", "answers", "carried", "reason", "root",
                "rootVersion", "causes"}) {
                isSame &= same(name, submission, question);
            }
        }
        return isSame;
    }
}
