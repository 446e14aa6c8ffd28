/** The boundary cases that the document names under "What it is" and "Terms". */
public final class TermsBoundaryTest {
    private static final int FAR = Stores.FAR;

    public static void main(String[] args) {
        call512();
        callsBehindThe512th();
        names();
        x1AtMostX2();
        y1AtMostY2();
        leastCoordinate();
        greatestCoordinate();
        coordinatesOfPoints();
        bordersIncluded();
        atMostFortyEntries();
        theSameSeveralTimes();
        orderByEachKey();
        orderOfForty();
        haveAPointInCommon();
        zeroWhenItIsInIt();
        leastSquare();
        nothingToBeAskedWhileDown();
        constants();
        Checks.end();
    }

    /** Each kind of call as the 512th of an object that has grown and shrunk before. */
    private static void call512() {
        Checks.sentence("\"at most 512 calls after it has been made\"");
        for (int kind = 0; kind < 16; kind++) {
            BoxedPages s = new BoxedPages();
            Model m = new Model();
            for (int call = 1; call <= 511; call++) {
                int i = call * 7 % 40;
                boolean out = call / 60 % 2 == 1;
                int[] r = Stores.rectangle(i);
                int got = out ? Stores.delete(s, i) : Stores.insert(s, i);
                int want = out ? m.delete(i, r[0], r[1], r[2], r[3]) : m.insert(i, r[0], r[1], r[2], r[3]);
                Checks.due("call " + call, got, want);
            }
            Checks.due("call 512 of kind " + kind, answer(s, kind), answer(m, kind));
        }
    }

    private static long answer(BoxedPages s, int kind) {
        return switch (kind) {
            case 0 -> s.insert(999, 1, 1, 2, 2);
            case 1 -> Stores.delete(s, 7);
            case 2 -> s.take(-FAR, -FAR, FAR, FAR);
            case 3 -> s.cut(5) ? 1 : 0;
            case 4 -> s.stop() ? 1 : 0;
            case 5 -> s.start() ? 1 : 0;
            case 6 -> s.up() ? 1 : 0;
            case 7 -> s.size();
            case 8 -> s.count(5, 5, 30, 30);
            case 9 -> s.within(5, 5, 30, 30);
            case 10 -> s.pick(5, 5, 30, 30, 1);
            case 11 -> s.distance(-3, -4);
            case 12 -> s.nearest(99, 99);
            case 13 -> s.around(2);
            case 14 -> s.sound() ? 1 : 0;
            default -> s.frugal() ? 1 : 0;
        };
    }

    private static long answer(Model m, int kind) {
        int[] r = Stores.rectangle(7);
        return switch (kind) {
            case 0 -> m.insert(999, 1, 1, 2, 2);
            case 1 -> m.delete(7, r[0], r[1], r[2], r[3]);
            case 2 -> m.take(-FAR, -FAR, FAR, FAR);
            case 3 -> m.cut(5) ? 1 : 0;
            case 4 -> m.stop() ? 1 : 0;
            case 5 -> m.start() ? 1 : 0;
            case 6 -> m.up() ? 1 : 0;
            case 7 -> m.size();
            case 8 -> m.count(5, 5, 30, 30);
            case 9 -> m.within(5, 5, 30, 30);
            case 10 -> m.pick(5, 5, 30, 30, 1);
            case 11 -> m.distance(-3, -4);
            case 12 -> m.nearest(99, 99);
            case 13 -> m.around(2);
            case 14 -> m.sound() ? 1 : 0;
            default -> m.frugal() ? 1 : 0;
        };
    }

    /** Their answers are free, but none throws: LANGUAGE.md, rule 7. */
    private static void callsBehindThe512th() {
        Checks.sentence("\"what later calls answer is free\"");
        BoxedPages s = new BoxedPages();
        boolean ended = true;
        try {
            for (int call = 0; call < 5000; call++) {
                Stores.insert(s, call * 7 % 40);
                answer(s, call % 16);
                if (call % 5 == 0) {
                    s.start();
                }
            }
        } catch (RuntimeException e) {
            ended = false;
        }
        Checks.due("calls behind the 512th end without an exception", ended, true);
    }

    private static void names() {
        Checks.sentence("\"a NAME (0 .. 999)\"");
        for (int name : new int[] {0, 1, 998, 999}) {
            BoxedPages s = new BoxedPages();
            Checks.due("insert of name " + name, s.insert(name, 0, 0, 1, 1), 1);
            Checks.due("pick of name " + name, s.pick(0, 0, 1, 1, 0), name);
            Checks.due("nearest of name " + name, s.nearest(0, 0), name);
            Checks.due("delete of name " + name, s.delete(name, 0, 0, 1, 1), 0);
            s.insert(name, 0, 0, 1, 1);
            Checks.due("take of name " + name, s.take(0, 0, 1, 1), name);
        }
        for (int name : new int[] {-1, 1000, Integer.MIN_VALUE, Integer.MAX_VALUE}) {
            BoxedPages s = Stores.with(3);
            Checks.due("insert of name " + name, s.insert(name, 0, 0, 1, 1), Stores.BAD);
            Checks.due("delete of name " + name, s.delete(name, 0, 0, 1, 1), Stores.BAD);
            Stores.dueAll("after the name " + name, s, 3);
        }
    }

    private static void x1AtMostX2() {
        Checks.sentence("\"x1 at most x2\"");
        for (int x : new int[] {-FAR, -FAR + 1, -1, 0, 1, FAR - 1, FAR}) {
            allowed(new int[] {x, -2, x, 2});
            if (x > -FAR) {
                refused(new int[] {x, -2, x - 1, 2});
                allowed(new int[] {x - 1, -2, x, 2});
            }
        }
        refused(new int[] {FAR, -2, -FAR, 2});
    }

    private static void y1AtMostY2() {
        Checks.sentence("\"y1 at most y2\"");
        for (int y : new int[] {-FAR, -FAR + 1, -1, 0, 1, FAR - 1, FAR}) {
            allowed(new int[] {-2, y, 2, y});
            if (y > -FAR) {
                refused(new int[] {-2, y, 2, y - 1});
                allowed(new int[] {-2, y - 1, 2, y});
            }
        }
        refused(new int[] {-2, FAR, 2, -FAR});
    }

    private static void leastCoordinate() {
        Checks.sentence("\"coordinates from -1000000000\"");
        for (int side = 0; side < 4; side++) {
            int[] r = {-FAR + 1, -FAR + 1, -FAR + 1, -FAR + 1};
            // The lesser corner goes along, so that only the bound can be what is wrong.
            r[side % 2] = -FAR;
            r[side] = -FAR;
            allowed(r);
            for (int beyond : new int[] {-FAR - 1, Integer.MIN_VALUE + 1, Integer.MIN_VALUE}) {
                int[] wrong = {0, 0, 0, 0};
                wrong[side % 2] = beyond;
                wrong[side] = beyond;
                refused(wrong);
            }
        }
        allowed(new int[] {-FAR, -FAR, FAR, FAR});
        refused(new int[] {-FAR - 1, -FAR, FAR, FAR});
        refused(new int[] {-FAR, -FAR - 1, FAR, FAR});
    }

    private static void greatestCoordinate() {
        Checks.sentence("\"coordinates .. to 1000000000\"");
        for (int side = 0; side < 4; side++) {
            int[] r = {FAR - 1, FAR - 1, FAR - 1, FAR - 1};
            r[side % 2 + 2] = FAR;
            r[side] = FAR;
            allowed(r);
            for (int beyond : new int[] {FAR + 1, Integer.MAX_VALUE}) {
                int[] wrong = {0, 0, 0, 0};
                wrong[side % 2 + 2] = beyond;
                wrong[side] = beyond;
                refused(wrong);
            }
        }
        refused(new int[] {-FAR, -FAR, FAR + 1, FAR});
        refused(new int[] {-FAR, -FAR, FAR, FAR + 1});
    }

    private static void coordinatesOfPoints() {
        Checks.sentence("\"coordinates from -1000000000 to 1000000000\" of a point");
        BoxedPages s = Stores.withThePlane();
        for (int edge : new int[] {-FAR, FAR}) {
            int beyond = edge < 0 ? edge - 1 : edge + 1;
            int last = edge < 0 ? Integer.MIN_VALUE : Integer.MAX_VALUE;
            Checks.due("distance of x " + edge, s.distance(edge, 0), 0);
            Checks.due("distance of y " + edge, s.distance(0, edge), 0);
            Checks.due("nearest of x " + edge, s.nearest(edge, 0), 7);
            Checks.due("nearest of y " + edge, s.nearest(0, edge), 7);
            for (int wrong : new int[] {beyond, last}) {
                Checks.due("distance of x " + wrong, s.distance(wrong, 0), Stores.BAD);
                Checks.due("distance of y " + wrong, s.distance(0, wrong), Stores.BAD);
                Checks.due("nearest of x " + wrong, s.nearest(wrong, 0), Stores.BAD);
                Checks.due("nearest of y " + wrong, s.nearest(0, wrong), Stores.BAD);
            }
        }
    }

    private static void allowed(int[] r) {
        for (String call : Stores.WITH_RECTANGLE) {
            BoxedPages s = new BoxedPages();
            Checks.due("insert of " + Stores.told(r), s.insert(7, r[0], r[1], r[2], r[3]), 1);
            Checks.due(call + " of " + Stores.told(r), Stores.ask(s, call, r), Stores.dueOfItself(call));
        }
    }

    /** One that is there meets whatever the window is taken for. */
    private static void refused(int[] r) {
        for (String call : Stores.WITH_RECTANGLE) {
            BoxedPages s = Stores.withThePlane();
            Checks.due(call + " of " + Stores.told(r), Stores.ask(s, call, r), Stores.BAD);
            Checks.due("size after it", s.size(), 1);
            Checks.due("up after it", s.up(), true);
        }
    }

    private static void bordersIncluded() {
        Checks.sentence("\"all points from x1 to x2 and y1 to y2, the borders included\"");
        BoxedPages s = new BoxedPages();
        s.insert(1, -4, -3, 5, 6);
        for (int x = -5; x <= 6; x++) {
            for (int y = -4; y <= 7; y++) {
                boolean in = x >= -4 && x <= 5 && y >= -3 && y <= 6;
                Checks.due("count at " + x + " " + y, s.count(x, y, x, y), in ? 1 : 0);
                Checks.due("distance 0 at " + x + " " + y, s.distance(x, y) == 0, in);
                Checks.due("pick at " + x + " " + y, s.pick(x, y, x, y, 0), in ? 1 : Stores.BAD);
            }
        }
        BoxedPages point = new BoxedPages();
        point.insert(2, 3, 3, 3, 3);
        Checks.due("a point has itself", point.count(3, 3, 3, 3), 1);
        Checks.due("a point lies in itself", point.within(3, 3, 3, 3), 1);
        Checks.due("a point has no other", point.count(4, 3, 4, 3) + point.count(3, 2, 3, 2), 0);
    }

    private static void atMostFortyEntries() {
        Checks.sentence("\"The store has at most 40 entries\"");
        BoxedPages s = Stores.with(38);
        Checks.due("insert of the 39th", Stores.insert(s, 38), 39);
        Checks.due("insert of the 40th", Stores.insert(s, 39), 40);
        Checks.due("insert of the 41st", s.insert(40, 500, 500, 500, 500), Stores.FULL);
        Checks.due("the 41st isn't there", s.count(500, 500, 500, 500), 0);
        Stores.dueAll("with forty", s, 40);
        Checks.due("sound with forty", s.sound(), true);
        s.stop();
        s.start();
        Checks.due("insert of the 41st after a start", s.insert(40, 500, 500, 500, 500), Stores.FULL);
        Checks.due("delete of one of forty", Stores.delete(s, 39), 39);
        Checks.due("insert of the 40th again", Stores.insert(s, 39), 40);
        Checks.due("take of one of forty", Stores.take(s, 0), 0);
        Checks.due("insert of the 40th again", Stores.insert(s, 0), 40);
        Checks.due("insert of the 41st again", Stores.insert(s, 0), Stores.FULL);
        Stores.dueAll("with forty again", s, 40);
    }

    private static void theSameSeveralTimes() {
        Checks.sentence("\"the same may be there several times\"");
        for (int[] r : new int[][] {{0, 0, 0, 0}, {1, 2, 30, 40}, {-FAR, -FAR, FAR, FAR}}) {
            BoxedPages s = new BoxedPages();
            for (int i = 1; i <= 40; i++) {
                Checks.due("insert of the same", s.insert(3, r[0], r[1], r[2], r[3]), i);
                Checks.due("sound with the same", s.sound(), true);
                Checks.due("count of the same", s.count(r[0], r[1], r[2], r[3]), i);
                Checks.due("within the same", s.within(r[0], r[1], r[2], r[3]), i);
                Checks.due("pick of the last of the same", s.pick(r[0], r[1], r[2], r[3], i - 1), 3);
                Checks.due("pick behind the last of the same", s.pick(r[0], r[1], r[2], r[3], i), Stores.BAD);
            }
            Checks.due("insert of the same once more", s.insert(3, r[0], r[1], r[2], r[3]), Stores.FULL);
            for (int i = 39; i >= 0; i--) {
                int got = i % 2 == 0 ? s.delete(3, r[0], r[1], r[2], r[3]) : s.take(r[0], r[1], r[2], r[3]);
                Checks.due("one of the same goes", got, i % 2 == 0 ? i : 3);
                Checks.due("the others of the same stay", s.count(r[0], r[1], r[2], r[3]), i);
            }
            Checks.due("none of the same is left", s.delete(3, r[0], r[1], r[2], r[3]), Stores.BAD);
        }
    }

    /** Two that differ by 1 in one key, all later keys being the other way round. */
    private static void orderByEachKey() {
        Checks.sentence("\"by x1, then y1, x2, y2, then the name, the lesser first\"");
        ordered("x1", new int[] {999, -1, 5, 9, 9}, new int[] {0, 0, 4, 8, 8}, 5, 6);
        ordered("y1", new int[] {999, 0, -1, 9, 9}, new int[] {0, 0, 0, 8, 8}, 5, 6);
        ordered("x2", new int[] {999, 0, 0, 8, 9}, new int[] {0, 0, 0, 9, 8}, 5, 6);
        ordered("y2", new int[] {999, 0, 0, 8, 8}, new int[] {0, 0, 0, 8, 9}, 5, 6);
        ordered("the name", new int[] {0, 0, 0, 8, 8}, new int[] {1, 0, 0, 8, 8}, 5, 6);
        ordered("the last name", new int[] {998, 0, 0, 8, 8}, new int[] {999, 0, 0, 8, 8}, 5, 6);
        ordered("names of one and two digits", new int[] {9, 0, 0, 8, 8}, new int[] {10, 0, 0, 8, 8}, 5, 6);
        ordered("x1 far apart", new int[] {999, -FAR, 0, -FAR, 0}, new int[] {0, FAR, 0, FAR, 0}, 0, 0);
        ordered("y1 far apart", new int[] {999, 0, -FAR, 0, -FAR}, new int[] {0, 0, FAR, 0, FAR}, 0, 0);
        ordered("x2 far apart", new int[] {999, -FAR, 0, -FAR, 1}, new int[] {0, -FAR, 0, FAR, 0}, -FAR, 0);
        ordered("y2 far apart", new int[] {999, 0, -FAR, 0, -FAR}, new int[] {0, 0, -FAR, 0, FAR}, 0, -FAR);
    }

    private static void ordered(String what, int[] a, int[] b, int x, int y) {
        for (int turn = 0; turn < 2; turn++) {
            BoxedPages s = new BoxedPages();
            int[] one = turn == 0 ? a : b;
            int[] two = turn == 0 ? b : a;
            s.insert(one[0], one[1], one[2], one[3], one[4]);
            s.insert(two[0], two[1], two[2], two[3], two[4]);
            Checks.due("pick of the first by " + what, s.pick(-FAR, -FAR, FAR, FAR, 0), a[0]);
            Checks.due("pick of the second by " + what, s.pick(-FAR, -FAR, FAR, FAR, 1), b[0]);
            Checks.due("nearest by " + what, s.nearest(x, y), a[0]);
            Checks.due("take of the first by " + what, s.take(-FAR, -FAR, FAR, FAR), a[0]);
            Checks.due("take of the second by " + what, s.take(-FAR, -FAR, FAR, FAR), b[0]);
            Checks.due("take of a third by " + what, s.take(-FAR, -FAR, FAR, FAR), Stores.BAD);
        }
    }

    /** Number k of forty has each key as one of two values, in all pages of a full store. */
    private static void orderOfForty() {
        Checks.sentence("\"Entries have an ORDER\" of forty");
        BoxedPages s = new BoxedPages();
        for (int i = 0; i < 40; i++) {
            int k = i * 27 % 40;
            s.insert(k, k / 16, k / 8 % 2, k / 4 % 2 + 5, k / 2 % 2 + 5);
        }
        for (int k = 0; k < 40; k++) {
            Checks.due("pick " + k + " of forty", s.pick(3, 3, 3, 3, k), k);
        }
        for (int k = 0; k < 40; k++) {
            Checks.due("nearest of those left", s.nearest(3, 3), k);
            Checks.due("take of those left", s.take(3, 3, 3, 3), k);
        }
    }

    private static void haveAPointInCommon() {
        Checks.sentence("\"Two rectangles MEET when they have a point in common\"");
        BoxedPages s = new BoxedPages();
        s.insert(1, 0, 0, 10, 10);
        int[][] meeting = {
            {10, 10, 20, 20}, {-9, -9, 0, 0}, {10, -9, 20, 0}, {-9, 10, 0, 20}, {10, 4, 20, 5}, {-9, 4, 0, 5},
            {4, 10, 5, 20}, {4, -9, 5, 0}, {-9, 4, 20, 5}, {4, -9, 5, 20}, {-9, -9, 20, 20}, {4, 4, 5, 5}, {0, 0, 10, 10},
        };
        for (int[] w : meeting) {
            meeting(s, w, true);
        }
        int[][] apart = {
            {11, 10, 20, 20}, {10, 11, 20, 20}, {-9, -9, -1, 0}, {-9, -9, 0, -1}, {11, -9, 20, 0}, {10, -9, 20, -1},
            {-9, 10, -1, 20}, {-9, 11, 0, 20}, {11, 0, 20, 10}, {-9, 0, -1, 10}, {0, 11, 10, 20}, {0, -9, 10, -1},
        };
        for (int[] w : apart) {
            meeting(s, w, false);
        }
        BoxedPages corner = new BoxedPages();
        corner.insert(1, FAR, -FAR, FAR, -FAR);
        meeting(corner, new int[] {-FAR, -FAR, FAR, FAR}, true);
        meeting(corner, new int[] {FAR, -FAR, FAR, -FAR}, true);
        meeting(corner, new int[] {-FAR, -FAR, FAR - 1, FAR}, false);
        meeting(corner, new int[] {-FAR, -FAR + 1, FAR, FAR}, false);
    }

    /** The store keeps its one entry, named 1: what a take has taken is put back. */
    private static void meeting(BoxedPages s, int[] w, boolean meets) {
        Checks.due("count of " + Stores.told(w), s.count(w[0], w[1], w[2], w[3]), meets ? 1 : 0);
        Checks.due("pick of " + Stores.told(w), s.pick(w[0], w[1], w[2], w[3], 0), meets ? 1 : Stores.BAD);
        int x1 = s.around(0);
        int y1 = s.around(1);
        int x2 = s.around(2);
        int y2 = s.around(3);
        int taken = s.take(w[0], w[1], w[2], w[3]);
        Checks.due("take of " + Stores.told(w), taken, meets ? 1 : Stores.BAD);
        if (taken == 1) {
            s.insert(1, x1, y1, x2, y2);
        }
    }

    private static void zeroWhenItIsInIt() {
        Checks.sentence("\"DISTANCE .. 0 when it is in it\"");
        BoxedPages s = new BoxedPages();
        s.insert(1, 0, 0, 10, 10);
        int[][] points = {
            {0, 0, 0}, {10, 0, 0}, {0, 10, 0}, {10, 10, 0}, {0, 5, 0}, {10, 5, 0}, {5, 0, 0}, {5, 10, 0}, {5, 5, 0},
            {-1, 5, 1}, {11, 5, 1}, {5, -1, 1}, {5, 11, 1}, {-1, -1, 2}, {11, -1, 2}, {-1, 11, 2}, {11, 11, 2},
        };
        for (int[] p : points) {
            Checks.due("distance of " + p[0] + " " + p[1], s.distance(p[0], p[1]), p[2]);
        }
    }

    private static void leastSquare() {
        Checks.sentence("\"the least square of the distance\"");
        BoxedPages s = new BoxedPages();
        s.insert(1, 0, 0, 0, 0);
        // The last squares that an int has, the first that it hasn't, and the greatest of one side.
        for (long side : new long[] {1, 46340, 46341, 65535, 65536, 65537, 999999999, FAR}) {
            Checks.due("distance to the right by " + side, s.distance((int) side, 0), side * side);
            Checks.due("distance to the left by " + side, s.distance((int) -side, 0), side * side);
            Checks.due("distance upwards by " + side, s.distance(0, (int) side), side * side);
            Checks.due("distance downwards by " + side, s.distance(0, (int) -side), side * side);
            Checks.due("distance both ways by " + side, s.distance((int) side, (int) -side), 2 * side * side);
        }
        int[] ends = {-FAR, FAR};
        for (int x : ends) {
            for (int y : ends) {
                BoxedPages corner = new BoxedPages();
                corner.insert(1, x, y, x, y);
                Checks.due("distance along x", corner.distance(-x, y), 4000000000000000000L);
                Checks.due("distance along y", corner.distance(x, -y), 4000000000000000000L);
                Checks.due("the greatest distance", corner.distance(-x, -y), 8000000000000000000L);
                Checks.due("one less than it", corner.distance(-x, -y - Integer.signum(-y)), 4000000000000000000L + 1999999999L * 1999999999L);
                Checks.due("the nearest at the greatest distance", corner.nearest(-x, -y), 1);
            }
        }
    }

    private static void nothingToBeAskedWhileDown() {
        Checks.sentence("\"while it is down, nothing is there to be asked\"");
        for (int entries : new int[] {0, 1, 40}) {
            BoxedPages s = Stores.with(entries);
            s.stop();
            for (String call : Stores.WITH_RECTANGLE) {
                Checks.due(call, Stores.ask(s, call, new int[] {0, 0, 5, 5}), Stores.DOWN);
            }
            Checks.due("size", s.size(), Stores.DOWN);
            Checks.due("distance", s.distance(0, 0), Stores.DOWN);
            Checks.due("nearest", s.nearest(0, 0), Stores.DOWN);
            Checks.due("around", s.around(0), Stores.NONE);
            Checks.due("sound", s.sound(), false);
            Checks.due("up", s.up(), false);
            s.start();
            Stores.dueAll("nothing was changed", s, entries);
        }
    }

    private static void constants() {
        Checks.sentence("\"The constants\"");
        Checks.due("BAD", BoxedPages.BAD, -1);
        Checks.due("FULL", BoxedPages.FULL, -2);
        Checks.due("DOWN", BoxedPages.DOWN, -3);
        Checks.due("LOST", BoxedPages.LOST, -4);
        Checks.due("NONE", BoxedPages.NONE, 2000000000);
    }
}
