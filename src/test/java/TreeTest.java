/** Promises 16 and 17: sound and frugal, with trees that were spoilt to see that they tell. */
public final class TreeTest {
    public static void main(String[] args) {
        soundAlways();
        soundTellsWhatIsWrong();
        highestTree();
        splitAndMergeAgain();
        frugalAlways();
        frugalTellsWhatIsWrong();
        searchesLeavePagesOut();
        Checks.end();
    }

    private static BoxedPages filled() {
        BoxedPages s = new BoxedPages();
        for (int i = 0; i < 40; i++) {
            s.insert(i, i % 8 * 100, i / 8 * 100, i % 8 * 100 + 60, i / 8 * 100 + 60);
        }
        return s;
    }

    private static void soundAlways() {
        BoxedPages s = new BoxedPages();
        Checks.due("sound when new", s.sound(), true);
        int highest = 0;
        for (int i = 0; i < 40; i++) {
            s.insert(i, i * 37 % 40, i * 23 % 40, i * 37 % 40 + i % 3, i * 23 % 40 + i % 5);
            Checks.due("sound after insert", s.sound() && Inside.isTree(s), true);
            highest = Math.max(highest, Inside.height(s));
        }
        Checks.due("forty entries need three levels", highest >= 3, true);
        s.stop();
        Checks.due("sound when down", s.sound(), false);
        s.start();
        Checks.due("sound when up again", s.sound() && Inside.isTree(s), true);
        for (int left = 39; left >= 0; left--) {
            s.take(-1000, -1000, 1000, 1000);
            Checks.due("size after take", s.size(), left);
            Checks.due("sound after take", s.sound() && Inside.isTree(s), true);
        }
    }

    private static void soundTellsWhatIsWrong() {
        for (String side : new String[] {"x1", "y1", "x2", "y2"}) {
            for (int change = -1; change <= 1; change += 2) {
                BoxedPages s = filled();
                Object told = Inside.box(Inside.root(s), 0);
                Inside.set(told, side, Inside.number(told, side) + change);
                Checks.due("a told rectangle is wrong by " + change + " in " + side, s.sound(), false);
            }
        }
        BoxedPages few = filled();
        Object child = Inside.child(few, Inside.root(few), 0);
        Inside.set(child, "used", 1);
        Checks.due("a page has too few", few.sound(), false);
        BoxedPages deep = filled();
        Object shallow = Inside.box(Inside.root(deep), 0);
        Object lower = Inside.box(Inside.child(deep, Inside.root(deep), 0), 0);
        for (String part : new String[] {"x1", "y1", "x2", "y2", "below"}) {
            Inside.set(shallow, part, Inside.number(lower, part));
        }
        Inside.set(Inside.tree(deep), "entries", deep.count(-1000, -1000, 1000, 1000));
        Checks.due("a page is not as deep as the others", deep.sound(), false);
        BoxedPages loop = filled();
        Object page = Inside.child(loop, Inside.root(loop), 0);
        Inside.set(Inside.box(page, 0), "below", Inside.number(Inside.tree(loop), "root"));
        Checks.due("a page below itself", loop.sound(), false);
        BoxedPages lost = filled();
        Inside.set(Inside.box(Inside.root(lost), 0), "below", 1000);
        Checks.due("a page that there is not", lost.sound(), false);
        BoxedPages many = new BoxedPages();
        for (int i = 0; i < 5; i++) {
            many.insert(i, i, i, i, i);
        }
        Inside.set(Inside.root(many), "used", 6);
        Inside.set(Inside.tree(many), "entries", 6);
        Checks.due("a page has too many", many.sound(), false);
    }

    /** Each is nearer to the last than that to the one before, so that pages of two are left. */
    private static void highestTree() {
        BoxedPages s = new BoxedPages();
        int[] x = new int[40];
        double next = 1000000000.0;
        for (int i = 0; i < 40; i++) {
            x[i] = (int) next;
            next /= 1.6;
            s.insert(i, x[i], 0, x[i], 0);
            Checks.due("sound as it grows high", s.sound() && Inside.isTree(s), true);
        }
        Checks.due("four levels", Inside.height(s), 4);
        for (int i = 0; i < 40; i++) {
            Checks.due("found in the highest tree", s.nearest(x[i], 0), i);
            Checks.due("counted in the highest tree", s.count(x[i], 0, x[i], 0), 1);
        }
        s.stop();
        s.start();
        for (int i = 0; i < 40; i++) {
            Checks.due("deleted from the highest tree", s.delete(i, x[i], 0, x[i], 0), 39 - i);
            Checks.due("sound as it shrinks", s.sound() && Inside.isTree(s), true);
        }
    }

    /** The root grows and shrinks by turns: a page that were not given back would be missed. */
    private static void splitAndMergeAgain() {
        BoxedPages s = new BoxedPages();
        for (int turn = 0; turn < 36; turn++) {
            for (int i = 0; i < 6; i++) {
                s.insert(i, i, i, i, i);
            }
            Checks.due("two levels", Inside.height(s), 2);
            Checks.due("sound with two levels", s.sound() && Inside.isTree(s), true);
            for (int i = 0; i < 6; i++) {
                s.delete(i, i, i, i, i);
            }
            Checks.due("one level", Inside.height(s), 1);
            Checks.due("sound with one level", s.sound() && Inside.isTree(s), true);
        }
    }

    private static void frugalAlways() {
        BoxedPages s = new BoxedPages();
        Checks.due("frugal when there was none", s.frugal(), true);
        s.count(0, 0, 9, 9);
        s.nearest(0, 0);
        Checks.due("frugal when it is empty", s.frugal(), true);
        for (int x = -150; x < 950; x += 50) {
            s = filled();
            for (int y = -150; y < 650; y += 50) {
                s.count(x, y, x + 40, y + 40);
                Checks.due("count is frugal", s.frugal(), true);
                s.within(x, y, x + 160, y + 160);
                Checks.due("within is frugal", s.frugal(), true);
                s.pick(x, y, x + 160, y + 160, 1);
                Checks.due("pick is frugal", s.frugal(), true);
                s.distance(x, y);
                Checks.due("distance is frugal", s.frugal(), true);
                s.nearest(x, y);
                Checks.due("nearest is frugal", s.frugal(), true);
            }
        }
        s.count(1, 0, 0, 0);
        Checks.due("frugal behind a refused one", s.frugal(), true);
        s.stop();
        Checks.due("frugal when down", s.frugal(), true);
    }

    /** A root that tells of all pages that they lie everywhere makes the searches look in vain. */
    private static void frugalTellsWhatIsWrong() {
        BoxedPages s = filled();
        spoilRoot(s);
        s.count(0, 0, 1, 1);
        Checks.due("count looks in vain", s.frugal(), false);
        s = filled();
        spoilRoot(s);
        s.nearest(0, 0);
        Checks.due("nearest looks in vain", s.frugal(), false);
        s.count(-1000, -1000, 1000, 1000);
        Checks.due("and a later count does not", s.frugal(), true);
        s.distance(0, 0);
        Checks.due("distance looks in vain", s.frugal(), false);
        s.stop();
        s.start();
        s.within(0, 0, 1, 1);
        Checks.due("the disk was not spoilt", s.frugal(), true);
    }

    private static void spoilRoot(BoxedPages s) {
        Object root = Inside.root(s);
        for (int slot = 0; slot < Inside.number(root, "used"); slot++) {
            Object told = Inside.box(root, slot);
            Inside.set(told, "x1", -1000);
            Inside.set(told, "y1", -1000);
            Inside.set(told, "x2", 1000);
            Inside.set(told, "y2", 1000);
        }
    }

    private static void searchesLeavePagesOut() {
        BoxedPages s = filled();
        Object search = Inside.get(s, "search");
        s.count(-1000, -1000, 1000, 1000);
        int all = Inside.number(search, "looks");
        s.count(0, 0, 10, 10);
        Checks.due("a small window looks into few", Inside.number(search, "looks") < all / 2, true);
        s.count(900, 900, 950, 950);
        Checks.due("a window beside looks into the root", Inside.number(search, "looks"), 1);
        s.nearest(30, 30);
        Checks.due("a point looks into few", Inside.number(search, "looks") < all / 2, true);
    }
}
