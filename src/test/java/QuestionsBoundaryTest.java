/** The boundary cases of promises 9 to 15: size, count, within, pick, distance, nearest, around. */
public final class QuestionsBoundaryTest {
    private static final int FAR = Stores.FAR;

    public static void main(String[] args) {
        sizeFromNoneToForty();
        sizeDown();
        countFromNoneToForty();
        countDownThenBad();
        withinWholly();
        withinFromNoneToForty();
        withinDownThenBad();
        pickFromZero();
        pickInTheirOrder();
        pickDownThenBad();
        leastDistance();
        distanceDownThenBad();
        distanceOfNoEntries();
        nearestHasTheLeastDistance();
        nearestFirstInTheirOrder();
        nearestDownThenBad();
        nearestOfNoEntries();
        aroundAllEntries();
        aroundNoEntries();
        aroundDown();
        aroundNoSide();
        questionsChangeNothing();
        Checks.end();
    }

    private static void sizeFromNoneToForty() {
        Checks.sentence("Promise 9, \"How many entries there are\"");
        BoxedPages s = new BoxedPages();
        Checks.due("of none", s.size(), 0);
        for (int i = 0; i < 40; i++) {
            Stores.insert(s, i);
            Checks.due("after an insert", s.size(), i + 1);
        }
        Stores.insert(s, 0);
        Checks.due("after an insert that was refused", s.size(), 40);
        for (int i = 0; i < 40; i++) {
            Stores.take(s, i);
            Checks.due("after a take", s.size(), 39 - i);
        }
        Stores.take(s, 0);
        Checks.due("after a take that was refused", s.size(), 0);
    }

    private static void sizeDown() {
        Checks.sentence("Promise 9, \"DOWN\"");
        for (int entries : new int[] {0, 1, 40}) {
            BoxedPages s = Stores.with(entries);
            s.stop();
            Checks.due("down", s.size(), Stores.DOWN);
            s.start();
            Checks.due("up again", s.size(), entries);
        }
    }

    private static void countFromNoneToForty() {
        Checks.sentence("Promise 10, \"How many entries meet a window\"");
        BoxedPages s = Stores.with(40);
        Checks.due("all", Stores.countAll(s), 40);
        Checks.due("the least window that meets all", s.count(5, 5, 70, 40), 40);
        Checks.due("one less to the right", s.count(5, 5, 69, 40), 35);
        Checks.due("one less to the left", s.count(6, 5, 70, 40), 35);
        Checks.due("one less above", s.count(5, 5, 70, 39), 32);
        Checks.due("one less below", s.count(5, 6, 70, 40), 32);
        Checks.due("between them", s.count(6, 6, 9, 9), 0);
        Checks.due("at four corners", s.count(5, 5, 10, 10), 4);
        Checks.due("beside all", s.count(76, 0, FAR, FAR), 0);
        Checks.due("at the border of all", s.count(75, 0, FAR, FAR), 5);
        Checks.due("none in an empty store", Stores.countAll(new BoxedPages()), 0);
    }

    private static void countDownThenBad() {
        Checks.sentence("Promise 10, \"DOWN; else BAD (bounds)\"");
        downThenBad("count");
    }

    private static void withinWholly() {
        Checks.sentence("Promise 11, \"lie in a window wholly\"");
        BoxedPages s = new BoxedPages();
        s.insert(1, -4, -3, 5, 6);
        Checks.due("its own rectangle", s.within(-4, -3, 5, 6), 1);
        Checks.due("one less to the left", s.within(-3, -3, 5, 6), 0);
        Checks.due("one less below", s.within(-4, -2, 5, 6), 0);
        Checks.due("one less to the right", s.within(-4, -3, 4, 6), 0);
        Checks.due("one less above", s.within(-4, -3, 5, 5), 0);
        Checks.due("one more everywhere", s.within(-5, -4, 6, 7), 1);
        Checks.due("the widest window", s.within(-FAR, -FAR, FAR, FAR), 1);
        Checks.due("a window in it", s.within(0, 0, 1, 1), 0);
        Checks.due("a window across it", s.within(-9, 0, 9, 1), 0);
        BoxedPages plane = Stores.withThePlane();
        Checks.due("the plane in the widest window", plane.within(-FAR, -FAR, FAR, FAR), 1);
        Checks.due("the plane in one less", plane.within(-FAR, -FAR, FAR, FAR - 1), 0);
        Checks.due("the plane in one less", plane.within(-FAR + 1, -FAR, FAR, FAR), 0);
    }

    private static void withinFromNoneToForty() {
        Checks.sentence("Promise 11, \"How many entries\"");
        BoxedPages s = Stores.with(40);
        Checks.due("all", s.within(-FAR, -FAR, FAR, FAR), 40);
        Checks.due("the least window that has all", s.within(0, 0, 75, 45), 40);
        Checks.due("one less to the right", s.within(0, 0, 74, 45), 35);
        Checks.due("one less to the left", s.within(1, 0, 75, 45), 35);
        Checks.due("one less above", s.within(0, 0, 75, 44), 32);
        Checks.due("one less below", s.within(0, 1, 75, 45), 32);
        Checks.due("met, but none wholly", s.within(5, 5, 10, 10), 0);
        Checks.due("none in an empty store", new BoxedPages().within(-FAR, -FAR, FAR, FAR), 0);
    }

    private static void withinDownThenBad() {
        Checks.sentence("Promise 11, \"DOWN; else BAD (bounds)\"");
        downThenBad("within");
    }

    private static void pickFromZero() {
        Checks.sentence("Promise 12, \"entry k (from 0)\"");
        for (int entries : new int[] {0, 1, 2, 39, 40}) {
            BoxedPages s = Stores.with(entries);
            Checks.due("before the first of " + entries, s.pick(-FAR, -FAR, FAR, FAR, -1), Stores.BAD);
            Checks.due("the least of " + entries, s.pick(-FAR, -FAR, FAR, FAR, Integer.MIN_VALUE), Stores.BAD);
            Checks.due("the first of " + entries, s.pick(-FAR, -FAR, FAR, FAR, 0), entries == 0 ? Stores.BAD : 0);
            Checks.due("behind the last of " + entries, s.pick(-FAR, -FAR, FAR, FAR, entries), Stores.BAD);
            Checks.due("behind that of " + entries, s.pick(-FAR, -FAR, FAR, FAR, entries + 1), Stores.BAD);
            Checks.due("the greatest of " + entries, s.pick(-FAR, -FAR, FAR, FAR, Integer.MAX_VALUE), Stores.BAD);
        }
        // Of three in a row that meet the window; the fourth is one beside.
        BoxedPages s = Stores.with(8);
        for (int k = -1; k <= 4; k++) {
            Checks.due("pick " + k + " of three", s.pick(15, 0, 39, 5, k), k >= 0 && k < 3 ? k + 1 : Stores.BAD);
        }
    }

    private static void pickInTheirOrder() {
        Checks.sentence("Promise 12, \"in their order, of those that meet a window\"");
        BoxedPages s = Stores.with(40);
        for (int k = 0; k < 40; k++) {
            Checks.due("pick " + k + " of all", s.pick(-FAR, -FAR, FAR, FAR, k), k % 5 * 8 + k / 5);
        }
        for (int k = 0; k < 4; k++) {
            Checks.due("pick " + k + " of four", s.pick(5, 5, 10, 10, k), k % 2 * 8 + k / 2);
        }
        Checks.due("pick behind four", s.pick(5, 5, 10, 10, 4), Stores.BAD);
    }

    private static void pickDownThenBad() {
        Checks.sentence("Promise 12, \"DOWN; else BAD (bounds, or there is none)\"");
        downThenBad("pick");
        BoxedPages s = Stores.with(6);
        s.stop();
        Checks.due("down and no such k", s.pick(0, 0, 5, 5, 1), Stores.DOWN);
        Checks.due("down and k -1", s.pick(0, 0, 5, 5, -1), Stores.DOWN);
        s.start();
        Checks.due("no such k", s.pick(0, 0, 5, 5, 1), Stores.BAD);
        Checks.due("k -1", s.pick(0, 0, 5, 5, -1), Stores.BAD);
        Checks.due("none meets it", s.pick(6, 6, 9, 9, 0), Stores.BAD);
    }

    private static void downThenBad(String call) {
        int[][] wrong = {
            {1, 0, 0, 0}, {0, 1, 0, 0}, {-FAR - 1, 0, 0, 0}, {0, -FAR - 1, 0, 0}, {0, 0, FAR + 1, 0}, {0, 0, 0, FAR + 1},
        };
        BoxedPages s = Stores.withThePlane();
        for (int[] w : wrong) {
            Checks.due(call + " when up of " + Stores.told(w), Stores.ask(s, call, w), Stores.BAD);
        }
        s.stop();
        for (int[] w : wrong) {
            Checks.due(call + " when down of " + Stores.told(w), Stores.ask(s, call, w), Stores.DOWN);
        }
        Checks.due(call + " when down", Stores.ask(s, call, new int[] {0, 0, 0, 0}), Stores.DOWN);
    }

    /** With each number of entries, from points in them, one beside, and far away. */
    private static void leastDistance() {
        Checks.sentence("Promise 13, \"The least distance that a point has from an entry\"");
        for (int entries : new int[] {1, 5, 6, 39, 40}) {
            BoxedPages s = Stores.with(entries);
            for (int i = 0; i < entries; i++) {
                int[] r = Stores.rectangle(i);
                Checks.due("in entry " + i, s.distance(r[0] + 2, r[1] + 2), 0);
                Checks.due("at the corner of entry " + i, s.distance(r[2], r[3]), 0);
                Checks.due("one beside entry " + i, s.distance(r[2] + 1, r[3]), 1);
                Checks.due("two beside the corner of entry " + i, s.distance(r[2] + 2, r[3] + 2), 8);
            }
            Checks.due("below all", s.distance(0, -FAR), 1000000000000000000L);
        }
        BoxedPages s = new BoxedPages();
        s.insert(1, FAR, FAR, FAR, FAR);
        s.insert(2, -FAR, -FAR, -FAR + 1, -FAR);
        Checks.due("one nearer to the second", s.distance(0, 0), 999999999L * 999999999L + 1000000000000000000L);
    }

    private static void distanceDownThenBad() {
        Checks.sentence("Promise 13, \"DOWN; else BAD when a coordinate is out of its bounds\"");
        BoxedPages s = Stores.withThePlane();
        int[][] wrong = {{FAR + 1, 0}, {-FAR - 1, 0}, {0, FAR + 1}, {0, -FAR - 1}};
        for (int[] p : wrong) {
            Checks.due("up", s.distance(p[0], p[1]), Stores.BAD);
        }
        s.stop();
        for (int[] p : wrong) {
            Checks.due("down", s.distance(p[0], p[1]), Stores.DOWN);
        }
        Checks.due("down and in bounds", s.distance(0, 0), Stores.DOWN);
    }

    private static void distanceOfNoEntries() {
        Checks.sentence("Promise 13, \"or there are no entries\"");
        BoxedPages s = new BoxedPages();
        Checks.due("when new", s.distance(0, 0), Stores.BAD);
        Checks.due("out of bounds too", s.distance(FAR + 1, 0), Stores.BAD);
        Stores.insert(s, 0);
        Checks.due("with the first", s.distance(0, 0), 0);
        Stores.delete(s, 0);
        Checks.due("when the last is deleted", s.distance(0, 0), Stores.BAD);
        Stores.insert(s, 0);
        Stores.take(s, 0);
        Checks.due("when the last is taken", s.distance(0, 0), Stores.BAD);
        s.stop();
        Checks.due("when down", s.distance(0, 0), Stores.DOWN);
        s.start();
        Checks.due("when up again", s.distance(0, 0), Stores.BAD);
        s.cut(2);
        Stores.insert(s, 0);
        s.start();
        Checks.due("when the first was cut off", s.distance(0, 0), Stores.BAD);
        s.cut(3);
        Stores.insert(s, 0);
        s.start();
        Checks.due("when the first was cut off behind the mark", s.distance(0, 0), 0);
    }

    private static void nearestHasTheLeastDistance() {
        Checks.sentence("Promise 14, \"The name of the entry that has it\"");
        BoxedPages s = Stores.with(40);
        for (int i = 0; i < 40; i++) {
            int[] r = Stores.rectangle(i);
            Checks.due("in it", s.nearest(r[0] + 2, r[1] + 2), i);
            Checks.due("at its lesser corner", s.nearest(r[0], r[1]), i);
            Checks.due("at its greater corner", s.nearest(r[2], r[3]), i);
            Checks.due("two beside it", s.nearest(r[2] + 2, r[3] + 2), i);
        }
        BoxedPages far = new BoxedPages();
        far.insert(1, -FAR, -FAR, -FAR, -FAR);
        far.insert(2, FAR, FAR, FAR, FAR);
        Checks.due("one nearer to the greater", far.nearest(1, 0), 2);
        Checks.due("one nearer to the lesser", far.nearest(-1, 0), 1);
        Checks.due("the greater from its corner", far.nearest(FAR, FAR), 2);
        far.delete(1, -FAR, -FAR, -FAR, -FAR);
        Checks.due("the only one, farther than any", far.nearest(-FAR, -FAR), 2);
    }

    /** The first of forty as near, wherever it stands; then one that is nearer by 1. */
    private static void nearestFirstInTheirOrder() {
        Checks.sentence("Promise 14, \"of several of the first in their order\"");
        int[][] asNear = {{0, 25}, {7, 24}, {15, 20}, {20, 15}, {24, 7}, {25, 0}};
        for (int place = 0; place < 40; place++) {
            BoxedPages s = new BoxedPages();
            for (int i = 0; i < 40; i++) {
                int[] p = asNear[i % asNear.length];
                int up = i % 4 < 2 ? p[1] : -p[1];
                if (i == place) {
                    s.insert(999, -25, 0, -25, 0);
                } else {
                    s.insert(i, p[0], up, p[0], up);
                }
            }
            Checks.due("with the first at " + place, s.nearest(0, 0), 999);
            Checks.due("their distance", s.distance(0, 0), 625);
            Checks.due("it goes", s.delete(999, -25, 0, -25, 0), 39);
            s.insert(998, 3, 24, 3, 24);
            Checks.due("one that is nearer, though later", s.nearest(0, 0), 998);
        }
        BoxedPages s = new BoxedPages();
        for (int i = 0; i < 40; i++) {
            s.insert(999 - i, 5, 5, 6, 6);
        }
        for (int i = 0; i < 40; i++) {
            Checks.due("by the name of the same rectangles", s.nearest(0, 0), 960 + i);
            Checks.due("which goes", s.delete(960 + i, 5, 5, 6, 6), 39 - i);
        }
    }

    private static void nearestDownThenBad() {
        Checks.sentence("Promise 14, \"DOWN; else BAD, as there\"");
        BoxedPages s = Stores.withThePlane();
        int[][] wrong = {{FAR + 1, 0}, {-FAR - 1, 0}, {0, FAR + 1}, {0, -FAR - 1}};
        for (int[] p : wrong) {
            Checks.due("up", s.nearest(p[0], p[1]), Stores.BAD);
        }
        s.stop();
        for (int[] p : wrong) {
            Checks.due("down", s.nearest(p[0], p[1]), Stores.DOWN);
        }
        Checks.due("down and in bounds", s.nearest(0, 0), Stores.DOWN);
    }

    private static void nearestOfNoEntries() {
        Checks.sentence("Promise 14, \"BAD, as there\": there are no entries");
        BoxedPages s = new BoxedPages();
        Checks.due("when new", s.nearest(0, 0), Stores.BAD);
        Stores.insert(s, 0);
        Checks.due("with the first", s.nearest(0, 0), 0);
        Stores.take(s, 0);
        Checks.due("when the last is taken", s.nearest(0, 0), Stores.BAD);
        s.stop();
        Checks.due("when down", s.nearest(0, 0), Stores.DOWN);
        s.start();
        Checks.due("when up again", s.nearest(0, 0), Stores.BAD);
    }

    private static void aroundAllEntries() {
        Checks.sentence("Promise 15, \"The least rectangle around all entries\"");
        BoxedPages s = new BoxedPages();
        s.insert(1, 3, 4, 3, 4);
        dueAround("a point", s, 3, 4, 3, 4);
        s.insert(2, 2, 4, 3, 4);
        dueAround("one more to the left", s, 2, 4, 3, 4);
        s.insert(3, 3, 3, 3, 4);
        dueAround("one more below", s, 2, 3, 3, 4);
        s.insert(4, 3, 4, 4, 4);
        dueAround("one more to the right", s, 2, 3, 4, 4);
        s.insert(5, 3, 4, 3, 5);
        dueAround("one more above", s, 2, 3, 4, 5);
        s.insert(6, -FAR, -FAR, FAR, FAR);
        dueAround("the plane", s, -FAR, -FAR, FAR, FAR);
        s.delete(6, -FAR, -FAR, FAR, FAR);
        dueAround("less the plane", s, 2, 3, 4, 5);
        s.delete(2, 2, 4, 3, 4);
        dueAround("less one to the left", s, 3, 3, 4, 5);
        s.delete(3, 3, 3, 3, 4);
        dueAround("less one below", s, 3, 4, 4, 5);
        s.take(4, 4, 4, 4);
        dueAround("less one to the right", s, 3, 4, 3, 5);
        s.take(3, 5, 3, 5);
        dueAround("less one above", s, 3, 4, 3, 4);
        BoxedPages full = Stores.with(40);
        dueAround("forty", full, 0, 0, 75, 45);
        full.stop();
        full.start();
        dueAround("forty after a start", full, 0, 0, 75, 45);
    }

    private static void dueAround(String what, BoxedPages s, int x1, int y1, int x2, int y2) {
        Checks.due(what + ": x1", s.around(0), x1);
        Checks.due(what + ": y1", s.around(1), y1);
        Checks.due(what + ": x2", s.around(2), x2);
        Checks.due(what + ": y2", s.around(3), y2);
    }

    private static void dueNoSides(String what, BoxedPages s) {
        dueAround(what, s, Stores.NONE, Stores.NONE, Stores.NONE, Stores.NONE);
    }

    private static void aroundNoEntries() {
        Checks.sentence("Promise 15, \"NONE when .. there are no entries\"");
        BoxedPages s = new BoxedPages();
        dueNoSides("when new", s);
        s.insert(1, 0, 0, 0, 0);
        dueAround("with the first", s, 0, 0, 0, 0);
        s.delete(1, 0, 0, 0, 0);
        dueNoSides("when the last is deleted", s);
        s.insert(1, 0, 0, 0, 0);
        s.take(0, 0, 0, 0);
        dueNoSides("when the last is taken", s);
        s.stop();
        s.start();
        dueNoSides("when up again", s);
    }

    private static void aroundDown() {
        Checks.sentence("Promise 15, \"NONE when the store is down\"");
        BoxedPages s = Stores.with(6);
        s.stop();
        dueNoSides("stopped", s);
        s.start();
        dueAround("up again", s, 0, 0, 55, 5);
        s.cut(5);
        Stores.insert(s, 6);
        dueNoSides("lost", s);
        s.start();
        dueAround("up again", s, 0, 0, 65, 5);
    }

    private static void aroundNoSide() {
        Checks.sentence("Promise 15, \"NONE when .. side is none of these\"");
        BoxedPages s = new BoxedPages();
        s.insert(1, 1, 2, 3, 4);
        Checks.due("side -1", s.around(-1), Stores.NONE);
        for (int side = 0; side <= 3; side++) {
            Checks.due("side " + side, s.around(side), side + 1);
        }
        Checks.due("side 4", s.around(4), Stores.NONE);
        Checks.due("the least side", s.around(Integer.MIN_VALUE), Stores.NONE);
        Checks.due("the greatest side", s.around(Integer.MAX_VALUE), Stores.NONE);
    }

    /** Those that are refused too. */
    private static void questionsChangeNothing() {
        Checks.sentence("Promises 9 to 15, a question");
        for (int entries : new int[] {0, 1, 5, 6, 40}) {
            BoxedPages s = Stores.with(entries);
            for (int x = -1; x <= FAR + 1; x += FAR / 2 + 1) {
                s.count(x, 0, x, 5);
                s.within(0, x, 5, x);
                s.pick(x, 0, 5, 5, x);
                s.distance(x, 0);
                s.nearest(0, x);
                s.around(x);
                s.size();
                s.sound();
                s.frugal();
            }
            Stores.dueAll("after questions", s, entries);
            Checks.due("sound after questions", s.sound(), true);
            Checks.due("up after questions", s.up(), true);
        }
    }
}
