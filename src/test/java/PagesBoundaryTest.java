/**
 * The boundary cases of promises 16 and 17 and of the tree's pages; what no answer tells is
 * looked at from inside.
 */
public final class PagesBoundaryTest {
    private static final int FAR = Stores.FAR;

    public static void main(String[] args) {
        atMostFiveBelow();
        allButTheRootAtLeastTwo();
        allLowestPagesEquallyDeep();
        theLeastRectangle();
        soundAlwaysWhileUp();
        soundFalseWhenDown();
        frugalWhenThereWasNone();
        frugalAlways();
        pagesThatMeetTheWindow();
        pagesNotFartherThanFound();
        theLatestThatWasNotRefused();
        Checks.end();
    }

    private static void atMostFiveBelow() {
        Checks.sentence("\"at most 5 entries or pages below them\"");
        BoxedPages s = new BoxedPages();
        for (int i = 0; i < 5; i++) {
            s.insert(i, i, 0, i, 0);
            Checks.due("the root alone has them", Inside.height(s), 1);
            Checks.due("entries in the root", Inside.number(Inside.root(s), "used"), i + 1);
        }
        s.insert(5, 5, 0, 5, 0);
        Checks.due("the sixth splits the root", Inside.height(s), 2);
        Checks.due("into two pages", Inside.number(Inside.root(s), "used"), 2);
        Checks.due("as it must be", s.sound() && Inside.isTree(s), true);
        // Sound must see the sixth: five are allowed, and six are not.
        BoxedPages five = Stores.with(5);
        Checks.due("sound with five in a page", five.sound(), true);
        Inside.set(Inside.root(five), "used", 6);
        Inside.set(Inside.tree(five), "entries", 6);
        Checks.due("sound with six in a page", five.sound(), false);
    }

    private static void allButTheRootAtLeastTwo() {
        Checks.sentence("\"all but the root at least 2\"");
        BoxedPages s = new BoxedPages();
        Checks.due("the root may have none", s.sound() && Inside.isTree(s), true);
        s.insert(0, 0, 0, 0, 0);
        Checks.due("the root may have one", s.sound() && Inside.isTree(s), true);
        s = twoPages();
        Checks.due("both have three", usedBelow(s, 0) * 10 + usedBelow(s, 1), 33);
        s.delete(2, 2, 0, 2, 0);
        Checks.due("one has two", usedBelow(s, 0) * usedBelow(s, 1), 6);
        Checks.due("which is allowed", s.sound() && Inside.isTree(s) && Inside.height(s) == 2, true);
        Object small = Inside.child(s, Inside.root(s), usedBelow(s, 0) == 2 ? 0 : 1);
        Inside.set(small, "used", 1);
        Inside.set(Inside.tree(s), "entries", 4);
        Object told = Inside.box(Inside.root(s), usedBelow(s, 0) == 1 ? 0 : 1);
        for (String side : new String[] {"x1", "y1", "x2", "y2"}) {
            Inside.set(told, side, Inside.number(Inside.box(small, 0), side));
        }
        Checks.due("sound with one in a page", s.sound(), false);
        Inside.set(small, "used", 0);
        Inside.set(Inside.tree(s), "entries", 3);
        for (String side : new String[] {"x1", "y1", "x2", "y2"}) {
            // What the class takes for the least rectangle around nothing.
            Inside.set(told, side, side.endsWith("1") ? Stores.NONE : -Stores.NONE);
        }
        Checks.due("sound with none in a page", s.sound(), false);
        s = twoPages();
        s.delete(2, 2, 0, 2, 0);
        s.delete(1, 1, 0, 1, 0);
        Checks.due("a page of one is merged", Inside.height(s), 1);
        Checks.due("and all four are there", s.count(-FAR, -FAR, FAR, FAR), 4);
        Checks.due("as it must be", s.sound() && Inside.isTree(s), true);
    }

    /** Entries 0 to 2 in one page, 10 to 12 in another, each at its number. */
    private static BoxedPages twoPages() {
        BoxedPages s = new BoxedPages();
        for (int i = 0; i < 3; i++) {
            s.insert(i, i, 0, i, 0);
            s.insert(i + 10, i + 10, 0, i + 10, 0);
        }
        return s;
    }

    private static int usedBelow(BoxedPages s, int slot) {
        return Inside.number(Inside.child(s, Inside.root(s), slot), "used");
    }

    private static void allLowestPagesEquallyDeep() {
        Checks.sentence("\"all lowest pages are equally deep\"");
        BoxedPages s = new BoxedPages();
        int highest = 0;
        for (int i = 0; i < 40; i++) {
            Stores.insert(s, i * 7 % 40);
            Checks.due("while it grows", s.sound() && Inside.isTree(s), true);
            highest = Math.max(highest, Inside.height(s));
        }
        Checks.due("it grew to three levels", highest >= 3, true);
        for (int i = 0; i < 40; i++) {
            Stores.delete(s, i * 11 % 40);
            Checks.due("while it shrinks", s.sound() && Inside.isTree(s), true);
        }
        Checks.due("down to the root alone", Inside.height(s), 1);
        BoxedPages spoilt = Stores.with(40);
        Object higher = Inside.root(spoilt);
        Object lower = Inside.child(spoilt, higher, 0);
        for (String part : new String[] {"x1", "y1", "x2", "y2", "below"}) {
            Inside.set(Inside.box(higher, 0), part, Inside.number(Inside.box(lower, 0), part));
        }
        Inside.set(Inside.tree(spoilt), "entries", Stores.countAll(spoilt));
        Checks.due("sound with a page that is less deep", spoilt.sound(), false);
        BoxedPages unlike = twoPages();
        Inside.set(Inside.child(unlike, Inside.root(unlike), 1), "level", 2);
        Checks.due("sound with a page that ought to go deeper", unlike.sound(), false);
    }

    private static void theLeastRectangle() {
        Checks.sentence("\"the rectangle that is told of a page is the least around all that is below it\"");
        for (String side : new String[] {"x1", "y1", "x2", "y2"}) {
            for (int change = -1; change <= 1; change++) {
                BoxedPages s = Stores.with(40);
                Object told = Inside.box(Inside.root(s), 1);
                Inside.set(told, side, Inside.number(told, side) + change);
                Checks.due("sound when " + side + " is wrong by " + change, s.sound(), change == 0);
                BoxedPages lower = Stores.with(40);
                Object below = Inside.box(Inside.child(lower, Inside.root(lower), 0), 0);
                Inside.set(below, side, Inside.number(below, side) + change);
                Checks.due("sound when a lower " + side + " is wrong by " + change, lower.sound(), change == 0);
            }
        }
        BoxedPages s = twoPages();
        s.insert(20, -FAR, FAR, -FAR, FAR);
        s.insert(21, FAR, -FAR, FAR, -FAR);
        Checks.due("with the farthest corners", s.sound() && Inside.isTree(s), true);
        s.delete(20, -FAR, FAR, -FAR, FAR);
        Checks.due("without one of them", s.sound() && Inside.isTree(s), true);
        s.delete(21, FAR, -FAR, FAR, -FAR);
        Checks.due("without both", s.sound() && Inside.isTree(s), true);
    }

    /** With lines, points, the same, and rectangles in rectangles, from none to forty and back. */
    private static void soundAlwaysWhileUp() {
        Checks.sentence("Promise 16, \"always so while the store is up\"");
        for (int kind = 0; kind < 6; kind++) {
            BoxedPages s = new BoxedPages();
            for (int turn = 0; turn < 80; turn++) {
                int i = turn % 40;
                int[] r = shape(kind, i);
                if (turn < 40) {
                    s.insert(i, r[0], r[1], r[2], r[3]);
                } else {
                    s.delete(i, r[0], r[1], r[2], r[3]);
                }
                Checks.due("sound with " + s.size() + " of kind " + kind, s.sound(), true);
                Checks.due("the tree with them", Inside.isTree(s), true);
                if (turn % 10 == 5) {
                    s.stop();
                    s.start();
                    Checks.due("sound after a start", s.sound() && Inside.isTree(s), true);
                }
            }
            Checks.due("empty in the end", s.size(), 0);
        }
    }

    private static int[] shape(int kind, int i) {
        int step = FAR / 40;
        return switch (kind) {
            case 0 -> new int[] {0, 0, 0, 0};
            case 1 -> new int[] {i * step, 0, i * step, 0};
            case 2 -> new int[] {-FAR, i * step, FAR, i * step};
            case 3 -> new int[] {-FAR + i * step, -FAR + i * step, FAR - i * step, FAR - i * step};
            case 4 -> new int[] {-FAR, -FAR, FAR, FAR};
            default -> new int[] {i % 2 == 0 ? -FAR : FAR, i % 4 < 2 ? -FAR : FAR, FAR, FAR};
        };
    }

    private static void soundFalseWhenDown() {
        Checks.sentence("Promise 16, \"false when it is down\"");
        for (int entries : new int[] {0, 1, 5, 6, 40}) {
            BoxedPages s = Stores.with(entries);
            Checks.due("up", s.sound(), true);
            s.stop();
            Checks.due("stopped", s.sound(), false);
            s.start();
            Checks.due("up again", s.sound(), true);
            for (int which = 0; which <= 5 && entries > 0; which++) {
                BoxedPages lost = Stores.with(entries);
                lost.cut(which);
                Stores.delete(lost, 0);
                Checks.due("lost by cut " + which, lost.sound(), false);
                lost.start();
                Checks.due("up after cut " + which, lost.sound() && Inside.isTree(lost), true);
            }
        }
    }

    private static void frugalWhenThereWasNone() {
        Checks.sentence("Promise 17, \"true also when there was none\"");
        BoxedPages s = new BoxedPages();
        Checks.due("when new", s.frugal(), true);
        Stores.insert(s, 0);
        Checks.due("after an insert", s.frugal(), true);
        s.stop();
        Checks.due("when down", s.frugal(), true);
        s.start();
        Checks.due("when up again", s.frugal(), true);
        BoxedPages refused = new BoxedPages();
        refused.count(1, 0, 0, 0);
        refused.within(0, 0, FAR + 1, 0);
        refused.pick(0, 1, 0, 0, 0);
        refused.distance(0, 0);
        refused.nearest(0, FAR + 1);
        Checks.due("when all were refused", refused.frugal(), true);
    }

    private static void frugalAlways() {
        Checks.sentence("Promise 17, \"always so\"");
        for (int entries : new int[] {0, 1, 5, 6, 26, 40}) {
            for (int i = 0; i < 40; i += 3) {
                BoxedPages s = Stores.with(entries);
                int[] r = Stores.rectangle(i);
                for (int more = 0; more <= 6; more += 3) {
                    s.count(r[0], r[1], r[2] + more, r[3] + more);
                    Checks.due("count", s.frugal(), true);
                    s.within(r[0], r[1], r[2] + more, r[3] + more);
                    Checks.due("within", s.frugal(), true);
                    s.pick(r[0], r[1], r[2] + more, r[3] + more, more);
                    Checks.due("pick", s.frugal(), true);
                    s.distance(r[2] + more, r[3] + more);
                    Checks.due("distance", s.frugal(), true);
                    s.nearest(r[2] + more, r[3] + more);
                    Checks.due("nearest", s.frugal(), true);
                }
            }
        }
    }

    /** The pages lie from 0 to 2 and from 10 to 12: the window ends at one's border, or one before. */
    private static void pagesThatMeetTheWindow() {
        Checks.sentence("Promise 17, \"only into pages whose rectangle meets the window\"");
        int[][] windows = {
            {-FAR, 0, -1, 0, 1}, {-FAR, 0, 0, 0, 2}, {2, 0, 9, 0, 2}, {3, 0, 9, 0, 1}, {3, 0, 10, 0, 2}, {2, 0, 10, 0, 3},
            {12, 0, FAR, 0, 2}, {13, 0, FAR, 0, 1}, {-FAR, -FAR, FAR, -1, 1}, {-FAR, -FAR, FAR, 0, 3}, {-FAR, 1, FAR, FAR, 1},
        };
        for (int[] w : windows) {
            BoxedPages s = twoPages();
            s.count(w[0], w[1], w[2], w[3]);
            Checks.due("count of " + Stores.told(w), looks(s), w[4]);
            s.within(w[0], w[1], w[2], w[3]);
            Checks.due("within " + Stores.told(w), looks(s), w[4]);
            s.pick(w[0], w[1], w[2], w[3], 0);
            Checks.due("pick of " + Stores.told(w), looks(s), w[4]);
            Checks.due("frugal with " + Stores.told(w), s.frugal(), true);
        }
    }

    private static int looks(BoxedPages s) {
        return Inside.number(Inside.get(s, "search"), "looks");
    }

    /** Between the pages, 2 and 10, the point 6 is as far from both: both are looked into, for the order. */
    private static void pagesNotFartherThanFound() {
        Checks.sentence("Promise 17, \"or is not farther from the point than the distance that was found\"");
        int[][] points = {{5, 0, 2, 2}, {6, 0, 3, 2}, {7, 0, 2, 10}, {0, 0, 2, 0}, {12, 0, 2, 12}};
        for (int[] p : points) {
            BoxedPages s = twoPages();
            s.distance(p[0], p[1]);
            Checks.due("distance of " + p[0], looks(s), p[2]);
            Checks.due("frugal", s.frugal(), true);
            Checks.due("nearest of " + p[0], s.nearest(p[0], p[1]), p[3]);
            Checks.due("nearest of " + p[0] + " looks", looks(s), p[2]);
            Checks.due("frugal", s.frugal(), true);
        }
        // A spoilt root brings a look into a page as far as what is found, or farther by one.
        for (int away = 0; away <= 1; away++) {
            BoxedPages s = twoPages();
            spread(s);
            s.nearest(6 - away, 0);
            Checks.due("frugal with a page farther by " + away, s.frugal(), away == 0);
            s.distance(6 + away, 0);
            Checks.due("frugal with a page farther by " + away, s.frugal(), away == 0);
            s.count(2, 0, 10 - away, 0);
            Checks.due("frugal with a page beside by " + away, s.frugal(), away == 0);
            s.within(2 + away, 0, 10, 0);
            Checks.due("frugal with a page beside by " + away, s.frugal(), away == 0);
            s.pick(2, 0, 10 - away, 0, 0);
            Checks.due("frugal with a page beside by " + away, s.frugal(), away == 0);
        }
    }

    /** Makes the root tell that each page is everywhere. */
    private static void spread(BoxedPages s) {
        for (int slot = 0; slot < Inside.number(Inside.root(s), "used"); slot++) {
            Object told = Inside.box(Inside.root(s), slot);
            Inside.set(told, "x1", -FAR);
            Inside.set(told, "y1", -FAR);
            Inside.set(told, "x2", FAR);
            Inside.set(told, "y2", FAR);
        }
    }

    private static void theLatestThatWasNotRefused() {
        Checks.sentence("Promise 17, \"the latest .. that was not refused\"");
        BoxedPages s = twoPages();
        spread(s);
        s.count(0, 0, 1, 0);
        Checks.due("a look in vain", s.frugal(), false);
        s.count(1, 0, 0, 0);
        s.within(0, 0, FAR + 1, 0);
        s.pick(0, 1, 0, 0, 0);
        s.distance(FAR + 1, 0);
        s.nearest(0, -FAR - 1);
        Checks.due("refused ones are not the latest", s.frugal(), false);
        s.pick(-FAR, -FAR, FAR, FAR, -1);
        s.pick(-FAR, -FAR, FAR, FAR, 6);
        Checks.due("nor is a pick of what isn't there", s.frugal(), false);
        s.pick(-FAR, -FAR, FAR, FAR, 5);
        Checks.due("but a pick of the last is", s.frugal(), true);
        s.pick(0, 0, 1, 0, 2);
        Checks.due("a pick in vain, and of what isn't there", s.frugal(), true);
        s.pick(0, 0, 1, 0, 1);
        Checks.due("a pick in vain", s.frugal(), false);
        s.size();
        s.around(0);
        s.take(500, 500, 500, 500);
        Checks.due("nor are other calls", s.frugal(), false);
        s.stop();
        s.count(0, 0, 1, 0);
        s.nearest(0, 0);
        Checks.due("nor are those while it is down", s.frugal(), false);
        s.start();
        s.distance(0, 0);
        Checks.due("a later one that looks right", s.frugal(), true);
    }
}
