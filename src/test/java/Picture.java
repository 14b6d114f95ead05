import java.lang.reflect.InvocationTargetException;
import java.lang.reflect.Method;
import java.util.HashMap;
import java.util.Map;

/** All that an object (a Castlequorum or a Model) answers to the calls that change nothing, as one text. */
final class Picture {
    /** More than there can be of anything that is asked until it is refused, so that a wrong answer ends in a test. */
    private static final int MOST = 30;
    private static final Map<String, Method> METHODS = new HashMap<>();

    private Picture() {
    }

    static String of(Object game) {
        StringBuilder text = new StringBuilder();
        add(text, game, "time");
        add(text, game, "checksum");
        add(text, game, "isSound");
        for (int lord = 0; lord < 4; lord++) {
            add(text, game, "won", lord);
        }
        for (int castle = 0; castle < 2; castle++) {
            addCastle(text, game, castle);
        }
        for (int sight = 0; sight < MOST && !ask(game, "read", sight, true).equals("IndexOutOfBoundsException"); sight++) {
            add(text, game, "read", sight, true);
            add(text, game, "read", sight, false);
        }
        for (int truce = 0; truce < MOST && !ask(game, "truceOf", truce, 0).equals("IndexOutOfBoundsException"); truce++) {
            add(text, game, "truceOf", truce, 0);
            add(text, game, "truceOf", truce, 1);
        }
        return text.toString();
    }

    /** What an object answers of one castle alone. */
    static String ofCastle(Object game, int castle) {
        StringBuilder text = new StringBuilder();
        addCastle(text, game, castle);
        return text.toString();
    }

    private static void addCastle(StringBuilder text, Object game, int castle) {
        for (String name : new String[] {"entries", "counting", "upShare", "meanEntries"}) {
            add(text, game, name, castle);
        }
        add(text, game, "gold", castle, false);
        add(text, game, "gold", castle, true);
        for (int lord = 0; lord < 4; lord++) {
            add(text, game, "near", lord, castle);
            add(text, game, "purse", lord, castle);
            for (int gate = 0; gate < 3; gate++) {
                add(text, game, "leaseOf", lord, castle, gate);
            }
        }
        for (int gate = 0; gate < 3; gate++) {
            add(text, game, "openFor", castle, gate);
        }
        int entries = Integer.parseInt(ask(game, "entries", castle));
        for (int entry = 0; entry < entries; entry++) {
            add(text, game, "entryOf", castle, entry);
            add(text, game, "amountOf", castle, entry);
            add(text, game, "isCommitted", castle, entry);
        }
        for (int tower = 0; tower < MOST && !ask(game, "tower", castle, tower).equals("IndexOutOfBoundsException"); tower++) {
            addTower(text, game, castle, tower, entries);
        }
    }

    private static void addTower(StringBuilder text, Object game, int castle, int tower, int entries) {
        add(text, game, "tower", castle, tower);
        for (int gate = 0; gate < 3; gate++) {
            add(text, game, "voteOf", castle, tower, gate);
            add(text, game, "voteTill", castle, tower, gate);
        }
        for (int entry = 0; entry < entries; entry++) {
            add(text, game, "has", castle, tower, entry);
        }
    }

    private static void add(StringBuilder text, Object game, String name, Object... arguments) {
        text.append(name);
        for (Object argument : arguments) {
            text.append(' ').append(argument);
        }
        text.append('=').append(ask(game, name, arguments)).append('\n');
    }

    /** The answer of a call as text, or the name of what it throws. */
    static String ask(Object game, String name, Object... arguments) {
        try {
            return String.valueOf(method(game.getClass(), name).invoke(game, arguments));
        } catch (InvocationTargetException thrown) {
            return thrown.getCause().getClass().getSimpleName();
        } catch (IllegalAccessException closed) {
            return "IllegalAccessException";
        }
    }

    private static Method method(Class<?> face, String name) {
        return METHODS.computeIfAbsent(face.getName() + "." + name, key -> {
            for (Method method : face.getDeclaredMethods()) {
                if (method.getName().equals(name)) {
                    method.setAccessible(true);
                    return method;
                }
            }
            throw new IllegalStateException("no method " + key);
        });
    }
}
