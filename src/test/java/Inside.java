import java.lang.reflect.Array;
import java.lang.reflect.Field;
import java.lang.reflect.Modifier;
import java.util.Set;

/** All that an object holds, as one text, so that a refused call can be seen to leave it as it was. */
final class Inside {
    /** What the class only works with, and holds nothing by. */
    private static final Set<String> WORKING = Set.of("choice", "incoming");

    private Inside() {
    }

    static String of(SlipstreamCache x) {
        StringBuilder text = new StringBuilder();
        fields(x, text);
        return text.toString();
    }

    private static void fields(Object holder, StringBuilder text) {
        for (Field field : holder.getClass().getDeclaredFields()) {
            if (!Modifier.isStatic(field.getModifiers()) && !WORKING.contains(field.getName())) {
                text.append(field.getName()).append(' ');
                add(field, holder, text);
                text.append('\n');
            }
        }
    }

    private static void add(Field field, Object holder, StringBuilder text) {
        try {
            field.setAccessible(true);
            Object held = field.get(holder);
            if (field.getType().isArray()) {
                for (int at = 0; at < Array.getLength(held); at++) {
                    text.append(Array.get(held, at)).append(' ');
                }
            } else if (field.getType().isPrimitive()) {
                text.append(held);
            } else {
                fields(held, text);
            }
        } catch (IllegalAccessException hidden) {
            throw new IllegalStateException(hidden);
        }
    }
}
