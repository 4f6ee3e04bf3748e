import java.lang.reflect.Array;
import java.lang.reflect.Field;
import java.lang.reflect.Modifier;

/** Looks into a group, for what its answers do not show: where each copy stands. */
final class Inside {
    private final VersionGroup group;

    Inside(VersionGroup group) {
        this.group = group;
    }

    /** Follows the names from the group on; a number picks out of an array. */
    Object get(Object... path) {
        Object place = group;
        for (Object step : path) {
            place = step instanceof Integer ? Array.get(place, (Integer) step) : field(place, (String) step);
        }
        return place;
    }

    static Object field(Object place, String name) {
        try {
            Field field = place.getClass().getDeclaredField(name);
            field.setAccessible(true);
            return field.get(place);
        } catch (ReflectiveOperationException e) {
            throw new IllegalStateException(e);
        }
    }

    int number(Object... path) {
        return ((Number) get(path)).intValue();
    }

    int nodes() {
        return Array.getLength(get("nodes"));
    }

    int underWay() {
        return number("post", "size");
    }

    Object message(int place, String field) {
        return get("post", "slots", number("post", "order", place), field);
    }

    /** The place of the last message of a kind that goes to a node, or to outside (-1). */
    int place(String kind, int to) {
        int found = -1;
        for (int i = 0; i < underWay(); i++) {
            if (message(i, "kind").toString().equals(kind) && (Integer) message(i, "to") == to) {
                found = i;
            }
        }
        return found;
    }

    /** memory: what a node knows, or what it has flushed. */
    int end(int n, String memory) {
        return number("nodes", n, memory, "copy", "end");
    }

    int done(int n, String memory) {
        return number("nodes", n, memory, "copy", "done");
    }

    boolean arrived(int command) {
        return command < number("desk", "told") || (Boolean) get("desk", "arrived", command % 8);
    }

    /** All that the group holds, as one text: two are the same if nothing has changed. */
    String state() {
        StringBuilder text = new StringBuilder();
        write(group, text);
        return text.toString();
    }

    private static void write(Object place, StringBuilder text) {
        if (place == null || place instanceof Number || place instanceof Boolean || place instanceof Enum) {
            text.append(place).append(' ');
        } else if (place.getClass().isArray()) {
            for (int i = 0; i < Array.getLength(place); i++) {
                write(Array.get(place, i), text);
            }
        } else {
            for (Field field : place.getClass().getDeclaredFields()) {
                // Who is made first holds nothing of who holds it, but for these two that many share.
                if (!Modifier.isStatic(field.getModifiers()) && (place instanceof VersionGroup
                        || !field.getName().equals("post") && !field.getName().equals("plan"))) {
                    write(field(place, field.getName()), text);
                }
            }
        }
    }
}
