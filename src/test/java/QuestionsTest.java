/** Promises 9 to 15: size, count, within, pick, distance, nearest and around. */
public final class QuestionsTest {
    private static final int FAR = 1000000000;

    public static void main(String[] args) {
        sizes();
        windows();
        borders();
        wrongWindows();
        picks();
        distances();
        ties();
        wrongPoints();
        aroundAll();
        manyEntries();
        Checks.end();
    }

    private static void sizes() {
        BoxedPages s = new BoxedPages();
        Checks.due("size of none", s.size(), 0);
        s.insert(1, 0, 0, 0, 0);
        s.insert(1, 0, 0, 0, 0);
        Checks.due("size of two", s.size(), 2);
        s.take(0, 0, 0, 0);
        Checks.due("size of one", s.size(), 1);
        s.stop();
        Checks.due("size when down", s.size(), -3);
    }

    private static void windows() {
        BoxedPages s = new BoxedPages();
        s.insert(1, 0, 0, 10, 10);
        s.insert(2, 5, 5, 15, 15);
        s.insert(3, 20, 0, 30, 2);
        s.insert(4, -10, 4, 40, 6);
        Checks.due("count of all", s.count(-100, -100, 100, 100), 4);
        Checks.due("count of a cross", s.count(12, -5, 13, 20), 2);
        Checks.due("count of none", s.count(16, 10, 19, 20), 0);
        Checks.due("count of a point", s.count(7, 6, 7, 6), 3);
        Checks.due("within all", s.within(-100, -100, 100, 100), 4);
        Checks.due("within a part", s.within(0, 0, 15, 15), 2);
        Checks.due("within less", s.within(0, 0, 14, 15), 1);
        Checks.due("within none", s.within(1, 1, 39, 9), 0);
    }

    private static void borders() {
        BoxedPages s = new BoxedPages();
        s.insert(1, 0, 0, 10, 10);
        int[][] touching = {{10, 10, 20, 20}, {-5, -5, 0, 0}, {10, -5, 12, 0}, {-5, 10, 0, 12}, {3, 10, 4, 20}, {10, 3, 11, 4}};
        for (int[] w : touching) {
            Checks.due("count at a border", s.count(w[0], w[1], w[2], w[3]), 1);
            Checks.due("within at a border", s.within(w[0], w[1], w[2], w[3]), 0);
        }
        int[][] beside = {{11, 0, 20, 10}, {-9, 0, -1, 10}, {0, 11, 10, 20}, {0, -9, 10, -1}};
        for (int[] w : beside) {
            Checks.due("count beside", s.count(w[0], w[1], w[2], w[3]), 0);
        }
        Checks.due("within its own borders", s.within(0, 0, 10, 10), 1);
        int[][] narrow = {{1, 0, 10, 10}, {0, 1, 10, 10}, {0, 0, 9, 10}, {0, 0, 10, 9}};
        for (int[] w : narrow) {
            Checks.due("within narrower ones", s.within(w[0], w[1], w[2], w[3]), 0);
        }
    }

    private static void wrongWindows() {
        BoxedPages s = new BoxedPages();
        s.insert(1, -FAR, -FAR, FAR, FAR);
        int[][] wrong = {
            {1, 0, 0, 0}, {0, 1, 0, 0}, {-FAR - 1, 0, 0, 0}, {0, -FAR - 1, 0, 0}, {0, 0, FAR + 1, 0}, {0, 0, 0, FAR + 1},
            {FAR + 1, 0, FAR + 1, 0}, {Integer.MIN_VALUE, Integer.MIN_VALUE, Integer.MAX_VALUE, Integer.MAX_VALUE},
        };
        for (int[] w : wrong) {
            Checks.due("count of a wrong window", s.count(w[0], w[1], w[2], w[3]), -1);
            Checks.due("within a wrong window", s.within(w[0], w[1], w[2], w[3]), -1);
            Checks.due("pick of a wrong window", s.pick(w[0], w[1], w[2], w[3], 0), -1);
        }
        Checks.due("count of the widest window", s.count(-FAR, -FAR, FAR, FAR), 1);
        Checks.due("within the widest window", s.within(-FAR, -FAR, FAR, FAR), 1);
    }

    private static void picks() {
        BoxedPages s = new BoxedPages();
        for (int i = 19; i >= 0; i--) {
            s.insert(i, i * 3, -i, i * 3 + 1, 0);
        }
        for (int k = 0; k < 20; k++) {
            Checks.due("pick of all", s.pick(-FAR, -FAR, FAR, FAR, k), k);
        }
        for (int k = 0; k < 8; k++) {
            Checks.due("pick of some", s.pick(13, -100, 27, 100, k), k < 6 ? k + 4 : -1);
        }
        Checks.due("pick before the first", s.pick(-FAR, -FAR, FAR, FAR, -1), -1);
        Checks.due("pick behind the last", s.pick(-FAR, -FAR, FAR, FAR, 20), -1);
        Checks.due("pick of the least", s.pick(-FAR, -FAR, FAR, FAR, Integer.MIN_VALUE), -1);
        Checks.due("pick of the greatest", s.pick(-FAR, -FAR, FAR, FAR, Integer.MAX_VALUE), -1);
        Checks.due("pick changes nothing", s.size(), 20);
    }

    private static void distances() {
        BoxedPages s = new BoxedPages();
        s.insert(1, 0, 0, 10, 10);
        int[][] points = {
            {5, 5, 0}, {0, 0, 0}, {10, 10, 0}, {-3, 5, 9}, {13, 5, 9}, {5, -4, 16}, {5, 14, 16}, {13, 14, 25},
            {-3, -4, 25}, {13, -4, 25}, {-3, 14, 25},
        };
        for (int[] p : points) {
            Checks.due("distance of " + p[0] + " " + p[1], s.distance(p[0], p[1]), p[2]);
            Checks.due("nearest of " + p[0] + " " + p[1], s.nearest(p[0], p[1]), 1);
        }
        Checks.due("the square is no int", s.distance(-FAR, 5), 1000000000000000000L);
        s.delete(1, 0, 0, 10, 10);
        s.insert(2, FAR, -FAR, FAR, -FAR);
        Checks.due("the greatest distance", s.distance(-FAR, FAR), 8000000000000000000L);
        Checks.due("the farthest is nearest", s.nearest(-FAR, FAR), 2);
    }

    private static void ties() {
        BoxedPages s = new BoxedPages();
        s.insert(8, 10, 0, 10, 0);
        s.insert(3, 0, 10, 0, 10);
        s.insert(9, -10, 0, -10, 0);
        s.insert(1, 0, -10, 0, -10);
        Checks.due("nearest of four as near", s.nearest(0, 0), 9);
        s.delete(9, -10, 0, -10, 0);
        Checks.due("nearest of three as near", s.nearest(0, 0), 1);
        s.insert(0, 0, -10, 0, -10);
        Checks.due("nearest by the name", s.nearest(0, 0), 0);
        // Many as near, in several pages: the first lies in one that is no nearer than the others.
        for (int i = 0; i < 30; i++) {
            s.insert(100 + i, 6, 8, 6 + i * 30, 8 + i);
        }
        s.insert(99, -6, -8, -6, -8);
        Checks.due("nearest of many as near", s.nearest(0, 0), 99);
        Checks.due("distance of many as near", s.distance(0, 0), 100);
    }

    private static void wrongPoints() {
        BoxedPages s = new BoxedPages();
        Checks.due("distance with no entries", s.distance(0, 0), -1);
        Checks.due("nearest with no entries", s.nearest(0, 0), -1);
        s.insert(0, -FAR, -FAR, FAR, FAR);
        int[][] wrong = {{FAR + 1, 0}, {0, FAR + 1}, {-FAR - 1, 0}, {0, -FAR - 1}, {Integer.MIN_VALUE, Integer.MAX_VALUE}};
        for (int[] w : wrong) {
            Checks.due("distance out of bounds", s.distance(w[0], w[1]), -1);
            Checks.due("nearest out of bounds", s.nearest(w[0], w[1]), -1);
        }
        Checks.due("distance at the bounds", s.distance(FAR, -FAR), 0);
        Checks.due("nearest at the bounds", s.nearest(-FAR, FAR), 0);
    }

    private static void aroundAll() {
        BoxedPages s = new BoxedPages();
        for (int i = 0; i < 12; i++) {
            s.insert(i, i, i * 2, i + 20, i * 2 + 7);
        }
        s.insert(50, -FAR, 3, -FAR, 3);
        int[] due = {-FAR, 0, 31, 29};
        for (int side = 0; side < 4; side++) {
            Checks.due("around " + side, s.around(side), due[side]);
        }
        s.delete(50, -FAR, 3, -FAR, 3);
        s.delete(11, 11, 22, 31, 29);
        int[] later = {0, 0, 30, 27};
        for (int side = 0; side < 4; side++) {
            Checks.due("around less " + side, s.around(side), later[side]);
        }
        for (int side : new int[] {-1, 4, Integer.MIN_VALUE, Integer.MAX_VALUE}) {
            Checks.due("around no side", s.around(side), 2000000000);
        }
        s.stop();
        Checks.due("around when down", s.around(0), 2000000000);
        s.start();
        Checks.due("around when up again", s.around(2), 30);
    }

    private static void manyEntries() {
        BoxedPages s = new BoxedPages();
        for (int i = 0; i < 40; i++) {
            s.insert(i, i % 8 * 10, i / 8 * 10, i % 8 * 10 + 6, i / 8 * 10 + 6);
        }
        for (int i = 0; i < 40; i++) {
            int x = i % 8 * 10;
            int y = i / 8 * 10;
            Checks.due("one by one", s.nearest(x + 3, y + 3), i);
            Checks.due("beside it", s.distance(x + 8, y + 8), 8);
            Checks.due("alone", s.count(x + 1, y + 1, x + 5, y + 5), 1);
            Checks.due("in it", s.within(x, y, x + 6, y + 6), 1);
            Checks.due("and not wholly", s.within(x, y, x + 5, y + 6), 0);
            Checks.due("frugal", s.frugal(), true);
        }
    }
}
