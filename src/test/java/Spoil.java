import java.lang.reflect.Array;
import java.lang.reflect.Field;
import java.lang.reflect.Modifier;
import java.util.Collections;
import java.util.IdentityHashMap;
import java.util.Set;

/**
 * Changes a byte of the disk from outside, for what no run of calls leads to. The byte is sought among
 * all rows of numbers inside the object: it is the one on which cell() depends, however they are named.
 */
final class Spoil {
    private final TrailStore store;
    private final int area;
    private final int at;
    private final int value;
    private final Set<Object> seen = Collections.newSetFromMap(new IdentityHashMap<>());

    private Spoil(TrailStore store, int area, int at, int value) {
        this.store = store;
        this.area = area;
        this.at = at;
        this.value = value;
    }

    /** Byte at of an area becomes a value; it answers what it was before. */
    static int set(TrailStore store, int area, int at, int value) {
        int before = store.cell(area, at);
        if (before != value && !new Spoil(store, area, at, value).isSetIn(store)) {
            throw new IllegalStateException("no row inside the object holds cell(" + area + ", " + at + ")");
        }
        return before;
    }

    private boolean isSetIn(Object part) {
        if (part == null || !seen.add(part)) {
            return false;
        }
        if (part.getClass().isArray()) {
            return isSetInRow(part);
        }
        if (!part.getClass().getName().startsWith("TrailStore")) {
            return false;
        }
        for (Field field : part.getClass().getDeclaredFields()) {
            if (!Modifier.isStatic(field.getModifiers()) && !field.getType().isPrimitive()
                    && isSetIn(read(field, part))) {
                return true;
            }
        }
        return false;
    }

    private static Object read(Field field, Object part) {
        try {
            field.setAccessible(true);
            return field.get(part);
        } catch (IllegalAccessException e) {
            throw new IllegalStateException(e);
        }
    }

    private boolean isSetInRow(Object row) {
        Class<?> type = row.getClass().getComponentType();
        if (type == byte.class || type == short.class || type == char.class || type == int.class) {
            return isSetBetween(row, type, 0, Array.getLength(row));
        }
        for (int i = 0; i < Array.getLength(row) && !type.isPrimitive(); i++) {
            if (isSetIn(Array.get(row, i))) {
                return true;
            }
        }
        return false;
    }

    /** Half by half, so that cell() is not asked for every number of a long row. */
    private boolean isSetBetween(Object row, Class<?> type, int from, int to) {
        if (from >= to || !changesIt(row, type, from, to)) {
            return false;
        }
        if (to - from == 1) {
            put(row, type, from, value);
            return true;
        }
        int middle = (from + to) / 2;
        return isSetBetween(row, type, from, middle) || isSetBetween(row, type, middle, to);
    }

    private boolean changesIt(Object row, Class<?> type, int from, int to) {
        Object before = Array.newInstance(type, to - from);
        System.arraycopy(row, from, before, 0, to - from);
        for (int i = from; i < to; i++) {
            put(row, type, i, value);
        }
        boolean changed = store.cell(area, at) == value;
        System.arraycopy(before, 0, row, from, to - from);
        return changed;
    }

    private static void put(Object row, Class<?> type, int i, int value) {
        if (type == byte.class) {
            Array.setByte(row, i, (byte) value);
        } else if (type == short.class) {
            Array.setShort(row, i, (short) value);
        } else if (type == char.class) {
            Array.setChar(row, i, (char) value);
        } else {
            Array.setInt(row, i, value);
        }
    }
}
