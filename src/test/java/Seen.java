import java.lang.reflect.InvocationTargetException;
import java.lang.reflect.Method;
import java.util.HashMap;
import java.util.Map;

/** The calls of the class by their names, on the class and on the model alike, and all that can be seen of one. */
final class Seen {
    /** No call answers this. */
    static final int THREW = Integer.MIN_VALUE + 1;

    /** Some of all there is: objects of each kind, a ring, kept fields, free numbers, an image, THE FAIL. */
    static final String ORDINARY = "schema 1 1 97 5, schema 2 1 98 -7, schema 2 2 104 99, schema 3 3 99 0, version 3 3,"
        + " object 1, object 2, object 3, row 0 3, row 2 1, image, object 1, object 2, version 2 2, graft 1 0 2,"
        + " graft 2 2 1, graft 3 1 0, graft 4 0 2, write 2 100 -12, shelf 0 3, put 0 0 66, put 0 1 49, load 0,"
        + " save 1 1, shelf 3 0, hold 0 3, hold 5 4, hold 7 1, sweep";

    private static final Map<String, Method> METHODS = new HashMap<>();

    private Seen() {
    }

    static int call(Object on, String name, int... args) {
        Method method = METHODS.computeIfAbsent(on.getClass() + name, key -> find(on.getClass(), name));
        Object[] all = new Object[args.length];
        for (int i = 0; i < args.length; i++) {
            all[i] = args[i];
        }
        try {
            return (int) method.invoke(on, all);
        } catch (InvocationTargetException e) {
            return THREW;
        } catch (IllegalAccessException e) {
            throw new IllegalStateException(name, e);
        }
    }

    private static Method find(Class<?> type, String name) {
        for (Method method : type.getDeclaredMethods()) {
            if (method.getName().equals(name) && method.getReturnType() == int.class) {
                return method;
            }
        }
        throw new IllegalStateException("no method " + name);
    }

    /** Carries out calls that are told as texts, and answers the same object. */
    static <T> T run(T on, String calls) {
        for (String told : calls.isEmpty() ? new String[0] : calls.split(", ")) {
            String[] words = told.split(" ");
            int[] args = new int[words.length - 1];
            for (int i = 0; i < args.length; i++) {
                args[i] = Integer.parseInt(words[i + 1]);
            }
            call(on, words[0], args);
        }
        return on;
    }

    /** The image is laid back at the end, so that it is seen, too. */
    static String all(Object on) {
        StringBuilder text = new StringBuilder();
        tellCountsAndObjects(on, text);
        for (int handle = 0; handle < 8; handle++) {
            text.append("\nhandle ").append(call(on, "held", handle));
        }
        for (int shelf = 0; shelf < 4; shelf++) {
            int signs = call(on, "sign", shelf, -1);
            text.append("\nshelf ").append(signs).append(':');
            for (int i = 0; i < signs; i++) {
                text.append(' ').append(call(on, "sign", shelf, i));
            }
        }
        text.append("\nthe fail");
        for (int i = 0; call(on, "cause", i, 0) >= 0; i++) {
            text.append(' ').append(call(on, "cause", i, 0)).append(' ').append(call(on, "cause", i, 1));
        }
        tellSchemas(on, text);
        text.append("\nimage ").append(call(on, "back"));
        tellCountsAndObjects(on, text);
        tellSchemas(on, text);
        return text.toString();
    }

    private static void tellCountsAndObjects(Object on, StringBuilder text) {
        for (int what = 0; what <= 8; what++) {
            text.append(' ').append(call(on, "count", what));
        }
        for (int object = 0; object < 30; object++) {
            if (call(on, "of", object, 0) > 0) {
                tellObject(on, object, text.append("\nobject ").append(object).append(':'));
            }
        }
    }

    private static void tellObject(Object on, int object, StringBuilder text) {
        for (int what = 0; what <= 4; what++) {
            text.append(' ').append(call(on, "of", object, what));
        }
        for (int i = 0; i < call(on, "of", object, 1); i++) {
            int name = call(on, "name", object, i);
            text.append(' ').append((char) name).append(call(on, "read", object, name));
        }
        for (int i = 0; i < call(on, "of", object, 2); i++) {
            text.append(" to ").append(call(on, "ref", object, i));
        }
    }

    /** A current version is seen by the call that changes it, and put back. */
    private static void tellSchemas(Object on, StringBuilder text) {
        for (int kind = 1; kind <= 3; kind++) {
            for (int version = 1; version <= 3; version++) {
                text.append("\nschema ").append(kind).append(' ').append(version).append(':');
                for (int name = 'a'; name <= 'h'; name++) {
                    text.append(' ').append(call(on, "byDefault", kind, version, name));
                }
            }
            int current = call(on, "version", kind, 1);
            text.append("\nversion ").append(current);
            call(on, "version", kind, current);
        }
    }
}
