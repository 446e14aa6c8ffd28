/** Stores that many tests begin with, and calls that they make in the same way. */
final class Stores {
    static final int FAR = 1000000000;
    static final int BAD = -1;
    static final int FULL = -2;
    static final int DOWN = -3;
    static final int LOST = -4;
    static final int NONE = 2000000000;

    /** The calls that are given a rectangle or a window. */
    static final String[] WITH_RECTANGLE = {"insert", "delete", "take", "count", "within", "pick"};

    private Stores() {
    }

    /** Entry i of a store as with() makes it: its rectangle meets that of no other. */
    static int[] rectangle(int i) {
        int x = i % 8 * 10;
        int y = i / 8 * 10;
        return new int[] {x, y, x + 5, y + 5};
    }

    static int insert(BoxedPages s, int i) {
        int[] r = rectangle(i);
        return s.insert(i, r[0], r[1], r[2], r[3]);
    }

    static int delete(BoxedPages s, int i) {
        int[] r = rectangle(i);
        return s.delete(i, r[0], r[1], r[2], r[3]);
    }

    static int take(BoxedPages s, int i) {
        int[] r = rectangle(i);
        return s.take(r[0], r[1], r[2], r[3]);
    }

    static int pick(BoxedPages s, int i) {
        int[] r = rectangle(i);
        return s.pick(r[0], r[1], r[2], r[3], 0);
    }

    static int countAll(BoxedPages s) {
        return s.count(-FAR, -FAR, FAR, FAR);
    }

    /** Entries 0 to entries - 1. */
    static BoxedPages with(int entries) {
        BoxedPages s = new BoxedPages();
        for (int i = 0; i < entries; i++) {
            insert(s, i);
        }
        return s;
    }

    /** One entry, named 7, that every window meets. */
    static BoxedPages withThePlane() {
        BoxedPages s = new BoxedPages();
        s.insert(7, -FAR, -FAR, FAR, FAR);
        return s;
    }

    /** That entries 0 to entries - 1 are there, and no other. */
    static void dueAll(String what, BoxedPages s, int entries) {
        Checks.due(what + ": size", s.size(), entries);
        Checks.due(what + ": count of all", countAll(s), entries);
        for (int i = 0; i < entries; i++) {
            Checks.due(what + ": entry " + i, pick(s, i), i);
        }
    }

    /** A call by its name, with an entry's name 7 or place 0 where it asks for one. */
    static int ask(BoxedPages s, String call, int[] r) {
        return switch (call) {
            case "insert" -> s.insert(7, r[0], r[1], r[2], r[3]);
            case "delete" -> s.delete(7, r[0], r[1], r[2], r[3]);
            case "take" -> s.take(r[0], r[1], r[2], r[3]);
            case "count" -> s.count(r[0], r[1], r[2], r[3]);
            case "within" -> s.within(r[0], r[1], r[2], r[3]);
            case "pick" -> s.pick(r[0], r[1], r[2], r[3], 0);
            default -> throw new IllegalArgumentException(call);
        };
    }

    /** What ask() must answer when the store has one entry alone: 7, with that very rectangle. */
    static int dueOfItself(String call) {
        return switch (call) {
            case "insert" -> 2;
            case "delete" -> 0;
            case "take", "pick" -> 7;
            default -> 1;
        };
    }

    static String told(int[] numbers) {
        return java.util.Arrays.toString(numbers);
    }
}
