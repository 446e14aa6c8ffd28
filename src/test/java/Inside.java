import java.lang.reflect.Array;
import java.lang.reflect.Field;
import java.lang.reflect.Modifier;
import java.util.ArrayDeque;
import java.util.Collections;
import java.util.IdentityHashMap;
import java.util.Set;

/** Looks into the object: what sound() and frugal() tell can be seen from there alone. */
final class Inside {
    private Inside() {
    }

    static Object get(Object owner, String name) {
        try {
            return field(owner, name).get(owner);
        } catch (IllegalAccessException e) {
            throw new IllegalStateException(e);
        }
    }

    static int number(Object owner, String name) {
        return (Integer) get(owner, name);
    }

    static void set(Object owner, String name, int value) {
        try {
            field(owner, name).setInt(owner, value);
        } catch (IllegalAccessException e) {
            throw new IllegalStateException(e);
        }
    }

    static Object tree(BoxedPages store) {
        return get(store, "tree");
    }

    static Object page(BoxedPages store, int number) {
        return Array.get(get(tree(store), "pages"), number);
    }

    static Object root(BoxedPages store) {
        return page(store, number(tree(store), "root"));
    }

    static Object box(Object page, int slot) {
        return Array.get(get(page, "boxes"), slot);
    }

    static Object child(BoxedPages store, Object page, int slot) {
        return page(store, number(box(page, slot), "below"));
    }

    static int height(BoxedPages store) {
        return number(root(store), "level");
    }

    /** Whether the tree is as the document tells it, found without the class's own functions. */
    static boolean isTree(BoxedPages store) {
        int[] frame = new int[4];
        return entries(store, root(store), height(store), true, frame) == number(tree(store), "entries")
            && takenPages(store) == pagesFrom(store, root(store));
    }

    /** How many pages are not free: a page that no other tells of would be lost for good. */
    private static int takenPages(BoxedPages store) {
        int sum = 0;
        for (int number = 1; number < Array.getLength(get(tree(store), "pages")); number++) {
            sum += number(page(store, number), "level") > 0 ? 1 : 0;
        }
        return sum;
    }

    private static int pagesFrom(BoxedPages store, Object page) {
        int sum = 1;
        for (int slot = 0; number(page, "level") > 1 && slot < number(page, "used"); slot++) {
            sum += pagesFrom(store, child(store, page, slot));
        }
        return sum;
    }

    private static int entries(BoxedPages store, Object page, int level, boolean root, int[] frame) {
        int used = number(page, "used");
        if (number(page, "level") != level || level < 1 || used > 5 || !root && used < 2) {
            return -1;
        }
        int sum = level == 1 ? used : 0;
        int[] inner = new int[4];
        for (int slot = 0; slot < used; slot++) {
            Object box = box(page, slot);
            int[] own = {number(box, "x1"), number(box, "y1"), number(box, "x2"), number(box, "y2")};
            if (level > 1) {
                int below = entries(store, child(store, page, slot), level - 1, false, inner);
                if (below < 0 || !java.util.Arrays.equals(inner, own)) {
                    return -1;
                }
                sum += below;
            }
            for (int side = 0; side < 4; side++) {
                boolean first = slot == 0;
                frame[side] = first ? own[side]
                    : side < 2 ? Math.min(frame[side], own[side]) : Math.max(frame[side], own[side]);
            }
        }
        return sum;
    }

    /** How many objects and arrays, fields and elements an object is made of, and how many are null. */
    static long[] room(Object start) {
        Set<Object> seen = Collections.newSetFromMap(new IdentityHashMap<>());
        ArrayDeque<Object> open = new ArrayDeque<>();
        seen.add(start);
        open.add(start);
        long parts = 0;
        long nulls = 0;
        while (!open.isEmpty()) {
            Object next = open.remove();
            if (next.getClass().isArray()) {
                parts += Array.getLength(next);
                for (int i = 0; !next.getClass().getComponentType().isPrimitive() && i < Array.getLength(next); i++) {
                    nulls += note(Array.get(next, i), seen, open);
                }
                continue;
            }
            for (Field field : next.getClass().getDeclaredFields()) {
                if (!Modifier.isStatic(field.getModifiers())) {
                    parts++;
                    if (!field.getType().isPrimitive()) {
                        nulls += note(get(next, field.getName()), seen, open);
                    }
                }
            }
        }
        return new long[] {seen.size(), parts, nulls};
    }

    private static int note(Object part, Set<Object> seen, ArrayDeque<Object> open) {
        if (part != null && seen.add(part)) {
            open.add(part);
        }
        return part == null ? 1 : 0;
    }

    private static Field field(Object owner, String name) {
        try {
            Field field = owner.getClass().getDeclaredField(name);
            field.setAccessible(true);
            return field;
        } catch (NoSuchFieldException e) {
            throw new IllegalStateException(e);
        }
    }
}
