/** Promises 2, 3 and 4: insert, delete and take. */
public final class ChangesTest {
    private static final int FAR = 1000000000;

    public static void main(String[] args) {
        insertAnswers();
        insertRefuses();
        fullStore();
        deleteAnswers();
        deleteRefuses();
        takeAnswers();
        takeFollowsTheOrder();
        takeRefuses();
        whileDown();
        fillAndEmpty();
        Checks.end();
    }

    private static void insertAnswers() {
        BoxedPages s = new BoxedPages();
        Checks.due("insert of the least name", s.insert(0, 1, 2, 3, 4), 1);
        Checks.due("insert of the greatest name", s.insert(999, 1, 2, 3, 4), 2);
        Checks.due("insert of the same again", s.insert(999, 1, 2, 3, 4), 3);
        Checks.due("insert of a point", s.insert(5, -7, -7, -7, -7), 4);
        Checks.due("insert of the whole plane", s.insert(6, -FAR, -FAR, FAR, FAR), 5);
        Checks.due("size", s.size(), 5);
        Checks.due("they are there", s.count(1, 2, 3, 4), 4);
    }

    private static void insertRefuses() {
        BoxedPages s = new BoxedPages();
        int[][] wrong = {
            {-1, 0, 0, 0, 0}, {1000, 0, 0, 0, 0}, {Integer.MIN_VALUE, 0, 0, 0, 0}, {Integer.MAX_VALUE, 0, 0, 0, 0},
            {1, 1, 0, 0, 0}, {1, 0, 1, 0, 0}, {1, -FAR - 1, 0, 0, 0}, {1, 0, -FAR - 1, 0, 0},
            {1, 0, 0, FAR + 1, 0}, {1, 0, 0, 0, FAR + 1}, {1, FAR + 1, 0, FAR + 1, 0},
            {1, 0, Integer.MIN_VALUE, 0, Integer.MAX_VALUE},
        };
        for (int[] w : wrong) {
            Checks.due("insert of " + java.util.Arrays.toString(w), s.insert(w[0], w[1], w[2], w[3], w[4]), -1);
            Checks.due("delete of " + java.util.Arrays.toString(w), s.delete(w[0], w[1], w[2], w[3], w[4]), -1);
        }
        Checks.due("nothing was added", s.size(), 0);
    }

    private static void fullStore() {
        BoxedPages s = new BoxedPages();
        for (int i = 0; i < 40; i++) {
            Checks.due("insert " + i, s.insert(i, i, -i, i + 1, -i + 1), i + 1);
        }
        Checks.due("insert into a full one", s.insert(1, 0, 0, 0, 0), -2);
        Checks.due("BAD comes before FULL", s.insert(1000, 0, 0, 0, 0), -1);
        Checks.due("BAD comes before FULL too", s.insert(1, 1, 0, 0, 0), -1);
        Checks.due("cut", s.cut(2), true);
        Checks.due("FULL uses no cut up", s.insert(1, 0, 0, 0, 0), -2);
        Checks.due("cut is set none", s.cut(-1), true);
        Checks.due("size stays", s.size(), 40);
        Checks.due("delete makes room", s.delete(39, 39, -39, 40, -38), 39);
        Checks.due("insert again", s.insert(1, 0, 0, 0, 0), 40);
        Checks.due("and full again", s.insert(1, 0, 0, 0, 0), -2);
    }

    private static void deleteAnswers() {
        BoxedPages s = new BoxedPages();
        s.insert(1, 0, 0, 5, 5);
        s.insert(1, 0, 0, 5, 5);
        s.insert(2, 0, 0, 5, 5);
        Checks.due("delete takes one of two", s.delete(1, 0, 0, 5, 5), 2);
        Checks.due("the other is there", s.count(0, 0, 5, 5), 2);
        Checks.due("delete takes the other", s.delete(1, 0, 0, 5, 5), 1);
        Checks.due("delete of none", s.delete(1, 0, 0, 5, 5), -1);
        Checks.due("who is left", s.pick(0, 0, 5, 5, 0), 2);
        Checks.due("delete of the last", s.delete(2, 0, 0, 5, 5), 0);
        Checks.due("sound", s.sound(), true);
    }

    private static void deleteRefuses() {
        BoxedPages s = new BoxedPages();
        s.insert(1, 10, 20, 30, 40);
        int[][] others = {
            {0, 10, 20, 30, 40}, {1, 11, 20, 30, 40}, {1, 10, 21, 30, 40}, {1, 10, 20, 29, 40}, {1, 10, 20, 30, 41},
        };
        for (int[] o : others) {
            Checks.due("delete of another", s.delete(o[0], o[1], o[2], o[3], o[4]), -1);
        }
        Checks.due("it is there yet", s.size(), 1);
    }

    private static void takeAnswers() {
        BoxedPages s = new BoxedPages();
        s.insert(4, 0, 0, 10, 10);
        s.insert(5, 20, 20, 30, 30);
        Checks.due("take beside them", s.take(11, 11, 19, 19), -1);
        Checks.due("take by a corner", s.take(10, 10, 19, 19), 4);
        Checks.due("size then", s.size(), 1);
        Checks.due("take by a window in it", s.take(25, 25, 25, 25), 5);
        Checks.due("take from an empty one", s.take(-FAR, -FAR, FAR, FAR), -1);
        Checks.due("size in the end", s.size(), 0);
    }

    /** Each row comes before the next by one key alone, the name being the last one. */
    private static void takeFollowsTheOrder() {
        int[][] rows = {
            {9, 0, 5, 9, 9}, {8, 1, 3, 9, 9}, {7, 1, 4, 6, 9}, {6, 1, 4, 7, 7}, {4, 1, 4, 7, 8}, {5, 1, 4, 7, 8},
        };
        BoxedPages s = new BoxedPages();
        for (int i = rows.length - 1; i >= 0; i--) {
            s.insert(rows[i][0], rows[i][1], rows[i][2], rows[i][3], rows[i][4]);
        }
        for (int k = 0; k < rows.length; k++) {
            Checks.due("pick in order", s.pick(0, 0, 10, 10, k), rows[k][0]);
        }
        for (int k = 0; k < rows.length; k++) {
            Checks.due("nearest in order", s.nearest(6, 6), rows[k][0]);
            Checks.due("take in order", s.take(6, 6, 6, 7), rows[k][0]);
        }
    }

    private static void takeRefuses() {
        BoxedPages s = new BoxedPages();
        s.insert(1, -FAR, -FAR, FAR, FAR);
        Checks.due("take with x1 > x2", s.take(1, 0, 0, 0), -1);
        Checks.due("take with y1 > y2", s.take(0, 1, 0, 0), -1);
        Checks.due("take below the bounds", s.take(-FAR - 1, 0, 0, 0), -1);
        Checks.due("take below the bounds", s.take(0, -FAR - 1, 0, 0), -1);
        Checks.due("take above the bounds", s.take(0, 0, FAR + 1, 0), -1);
        Checks.due("take above the bounds", s.take(0, 0, 0, FAR + 1), -1);
        Checks.due("nothing was taken", s.size(), 1);
    }

    private static void whileDown() {
        BoxedPages s = new BoxedPages();
        s.insert(1, 0, 0, 0, 0);
        s.stop();
        Checks.due("insert down", s.insert(1, 0, 0, 0, 0), -3);
        Checks.due("insert down and wrong", s.insert(-1, 0, 0, 0, 0), -3);
        Checks.due("delete down", s.delete(1, 0, 0, 0, 0), -3);
        Checks.due("delete down and wrong", s.delete(1000, 0, 0, 0, 0), -3);
        Checks.due("take down", s.take(0, 0, 0, 0), -3);
        Checks.due("take down and wrong", s.take(1, 0, 0, 0), -3);
        s.start();
        Checks.due("nothing was done", s.size(), 1);
    }

    /** Both ways through all heights, with the tree looked at from within at each step. */
    private static void fillAndEmpty() {
        for (int pattern = 0; pattern < 6; pattern++) {
            BoxedPages s = new BoxedPages();
            for (int i = 0; i < 40; i++) {
                Checks.due("fill", s.insert(i, x(pattern, i), y(pattern, i), x(pattern, i) + 2, y(pattern, i) + 2), i + 1);
                Checks.due("the tree while it grows", Inside.isTree(s), true);
            }
            for (int i = 0; i < 40; i++) {
                int gone = pattern % 2 == 0 ? i : i * 7 % 40;
                int gx = x(pattern, gone);
                int gy = y(pattern, gone);
                Checks.due("empty", s.delete(gone, gx, gy, gx + 2, gy + 2), 39 - i);
                Checks.due("the tree while it shrinks", Inside.isTree(s), true);
                Checks.due("gone", s.delete(gone, gx, gy, gx + 2, gy + 2), -1);
            }
        }
    }

    private static int x(int pattern, int i) {
        return pattern < 2 ? i * 5 : pattern < 4 ? i % 7 * 100 : 0;
    }

    private static int y(int pattern, int i) {
        return pattern < 2 ? 0 : pattern < 4 ? i / 7 * 100 : i * i;
    }
}
