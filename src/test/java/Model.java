import java.util.ArrayList;
import java.util.Comparator;
import java.util.List;

/** The document's promises told by a plain list: what every answer must be. */
final class Model {
    private static final Comparator<int[]> ORDER = (a, b) -> {
        int[] keys = {1, 2, 3, 4, 0};
        for (int key : keys) {
            if (a[key] != b[key]) {
                return Integer.compare(a[key], b[key]);
            }
        }
        return 0;
    };

    final List<int[]> entries = new ArrayList<>();
    private boolean up = true;
    private int cut = -1;

    private static boolean coordinate(int v) {
        return v >= -1000000000 && v <= 1000000000;
    }

    private static boolean rectangle(int x1, int y1, int x2, int y2) {
        return coordinate(x1) && coordinate(y1) && coordinate(x2) && coordinate(y2) && x1 <= x2 && y1 <= y2;
    }

    private int change(int[] added, int[] removed, int name) {
        int where = cut;
        cut = -1;
        if (where == -1 || where >= 3) {
            if (added != null) {
                entries.add(added);
                entries.sort(ORDER);
            }
            if (removed != null) {
                entries.remove(removed);
            }
        }
        if (where != -1) {
            up = false;
            return -4;
        }
        return name >= 0 ? name : entries.size();
    }

    int insert(int name, int x1, int y1, int x2, int y2) {
        if (!up) {
            return -3;
        }
        if (name < 0 || name > 999 || !rectangle(x1, y1, x2, y2)) {
            return -1;
        }
        return entries.size() == 40 ? -2 : change(new int[] {name, x1, y1, x2, y2}, null, -1);
    }

    int delete(int name, int x1, int y1, int x2, int y2) {
        if (!up) {
            return -3;
        }
        int[] wanted = {name, x1, y1, x2, y2};
        for (int[] entry : entries) {
            if (java.util.Arrays.equals(entry, wanted)) {
                return change(null, entry, -1);
            }
        }
        return -1;
    }

    int take(int x1, int y1, int x2, int y2) {
        if (!up) {
            return -3;
        }
        List<int[]> met = met(x1, y1, x2, y2);
        return met == null || met.isEmpty() ? -1 : change(null, met.get(0), met.get(0)[0]);
    }

    boolean cut(int which) {
        if (which < -1 || which > 5) {
            return false;
        }
        cut = which;
        return true;
    }

    boolean stop() {
        boolean was = up;
        up = false;
        return was;
    }

    boolean start() {
        boolean was = up;
        up = true;
        return !was;
    }

    boolean up() {
        return up;
    }

    int size() {
        return up ? entries.size() : -3;
    }

    /** Null when the window is none. */
    private List<int[]> met(int x1, int y1, int x2, int y2) {
        if (!rectangle(x1, y1, x2, y2)) {
            return null;
        }
        List<int[]> met = new ArrayList<>();
        for (int[] e : entries) {
            if (e[1] <= x2 && e[3] >= x1 && e[2] <= y2 && e[4] >= y1) {
                met.add(e);
            }
        }
        return met;
    }

    int count(int x1, int y1, int x2, int y2) {
        if (!up) {
            return -3;
        }
        List<int[]> met = met(x1, y1, x2, y2);
        return met == null ? -1 : met.size();
    }

    int within(int x1, int y1, int x2, int y2) {
        if (!up) {
            return -3;
        }
        if (!rectangle(x1, y1, x2, y2)) {
            return -1;
        }
        int sum = 0;
        for (int[] e : entries) {
            sum += e[1] >= x1 && e[3] <= x2 && e[2] >= y1 && e[4] <= y2 ? 1 : 0;
        }
        return sum;
    }

    int pick(int x1, int y1, int x2, int y2, int k) {
        if (!up) {
            return -3;
        }
        List<int[]> met = met(x1, y1, x2, y2);
        return met == null || k < 0 || k >= met.size() ? -1 : met.get(k)[0];
    }

    private static long square(int[] e, int x, int y) {
        long dx = Math.max(0L, Math.max((long) e[1] - x, (long) x - e[3]));
        long dy = Math.max(0L, Math.max((long) e[2] - y, (long) y - e[4]));
        return dx * dx + dy * dy;
    }

    private int[] closest(int x, int y) {
        int[] best = null;
        for (int[] e : entries) {
            if (best == null || square(e, x, y) < square(best, x, y)) {
                best = e;
            }
        }
        return coordinate(x) && coordinate(y) ? best : null;
    }

    long distance(int x, int y) {
        int[] best = closest(x, y);
        return !up ? -3 : best == null ? -1 : square(best, x, y);
    }

    int nearest(int x, int y) {
        int[] best = closest(x, y);
        return !up ? -3 : best == null ? -1 : best[0];
    }

    int around(int side) {
        if (!up || entries.isEmpty() || side < 0 || side > 3) {
            return 2000000000;
        }
        int best = entries.get(0)[side + 1];
        for (int[] e : entries) {
            best = side < 2 ? Math.min(best, e[side + 1]) : Math.max(best, e[side + 1]);
        }
        return best;
    }

    boolean sound() {
        return up;
    }

    boolean frugal() {
        return true;
    }
}
