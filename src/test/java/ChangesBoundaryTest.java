/** The boundary cases of promises 1 to 4: a new object, insert, delete and take. */
public final class ChangesBoundaryTest {
    private static final int FAR = Stores.FAR;

    public static void main(String[] args) {
        anEmptyStore();
        thatIsUp();
        noCutIsSet();
        insertAnswersHowMany();
        insertDown();
        insertBadBeforeFull();
        insertFull();
        insertLost();
        deleteTakesOneSuch();
        deleteAnswersHowMany();
        deleteDown();
        deleteBadWhenThereIsNone();
        deleteLost();
        takeTheFirst();
        takeOneThatMeets();
        takeAnswersItsName();
        takeDown();
        takeBadWhenNoneMeets();
        takeLost();
        refusedCallsChangeNothing();
        Checks.end();
    }

    private static void anEmptyStore() {
        Checks.sentence("Promise 1, \"An empty store\"");
        BoxedPages s = new BoxedPages();
        Checks.due("size", s.size(), 0);
        Checks.due("count of all", Stores.countAll(s), 0);
        Checks.due("within all", s.within(-FAR, -FAR, FAR, FAR), 0);
        Checks.due("pick of the first", s.pick(-FAR, -FAR, FAR, FAR, 0), Stores.BAD);
        Checks.due("distance", s.distance(0, 0), Stores.BAD);
        Checks.due("nearest", s.nearest(0, 0), Stores.BAD);
        Checks.due("around", s.around(0), Stores.NONE);
        Checks.due("delete", s.delete(0, 0, 0, 0, 0), Stores.BAD);
        Checks.due("take", s.take(-FAR, -FAR, FAR, FAR), Stores.BAD);
        Checks.due("sound", s.sound(), true);
        Checks.due("frugal", s.frugal(), true);
        Checks.due("the first insert", s.insert(0, 0, 0, 0, 0), 1);
        Checks.due("another new object is empty too", new BoxedPages().size(), 0);
    }

    private static void thatIsUp() {
        Checks.sentence("Promise 1, \"that is up\"");
        Checks.due("up", new BoxedPages().up(), true);
        Checks.due("start", new BoxedPages().start(), false);
        Checks.due("stop", new BoxedPages().stop(), true);
    }

    private static void noCutIsSet() {
        Checks.sentence("Promise 1, \"no cut is set\"");
        BoxedPages s = new BoxedPages();
        Checks.due("insert", s.insert(1, 0, 0, 0, 0), 1);
        Checks.due("take", s.take(0, 0, 0, 0), 1);
        Checks.due("up", s.up(), true);
        BoxedPages again = new BoxedPages();
        again.stop();
        again.start();
        Checks.due("insert after a start", again.insert(1, 0, 0, 0, 0), 1);
    }

    private static void insertAnswersHowMany() {
        Checks.sentence("Promise 2, \"answers how many there are then\"");
        BoxedPages s = new BoxedPages();
        for (int i = 0; i < 40; i++) {
            Checks.due("insert " + i, Stores.insert(s, i), i + 1);
            Checks.due("size after insert " + i, s.size(), i + 1);
            Checks.due("it is there", Stores.pick(s, i), i);
            Checks.due("sound after insert " + i, s.sound(), true);
        }
        Stores.dueAll("after all of them", s, 40);
        Checks.due("delete", Stores.delete(s, 39), 39);
        Checks.due("insert after a delete", Stores.insert(s, 39), 40);
    }

    /** Down and also out of bounds, full, or to be cut off: DOWN comes before all of them. */
    private static void insertDown() {
        Checks.sentence("Promise 2, \"DOWN; else\"");
        for (int entries : new int[] {0, 39, 40}) {
            BoxedPages s = Stores.with(entries);
            s.cut(3);
            s.stop();
            Checks.due("a right one", s.insert(1, 0, 0, 0, 0), Stores.DOWN);
            Checks.due("name -1", s.insert(-1, 0, 0, 0, 0), Stores.DOWN);
            Checks.due("name 1000", s.insert(1000, 0, 0, 0, 0), Stores.DOWN);
            Checks.due("x1 more than x2", s.insert(1, 1, 0, 0, 0), Stores.DOWN);
            Checks.due("a coordinate out of bounds", s.insert(1, 0, 0, 0, FAR + 1), Stores.DOWN);
            s.cut(-1);
            s.start();
            Stores.dueAll("after the start", s, entries);
        }
    }

    private static void insertBadBeforeFull() {
        Checks.sentence("Promise 2, \"else BAD (bounds); else FULL\"");
        for (int entries : new int[] {0, 39, 40}) {
            BoxedPages s = Stores.with(entries);
            int[][] wrong = {
                {-1, 0, 0, 0, 0}, {1000, 0, 0, 0, 0}, {1, 1, 0, 0, 0}, {1, 0, 1, 0, 0}, {1, -FAR - 1, 0, 0, 0},
                {1, 0, -FAR - 1, 0, 0}, {1, 0, 0, FAR + 1, 0}, {1, 0, 0, 0, FAR + 1},
            };
            for (int[] w : wrong) {
                Checks.due("insert of " + Stores.told(w), s.insert(w[0], w[1], w[2], w[3], w[4]), Stores.BAD);
            }
            Stores.dueAll("after them", s, entries);
        }
    }

    /** Full comes before LOST, and uses no cut up: nothing is changed. */
    private static void insertFull() {
        Checks.sentence("Promise 2, \"else FULL; LOST\"");
        BoxedPages s = Stores.with(40);
        Checks.due("the 41st", s.insert(1, 0, 0, 0, 0), Stores.FULL);
        for (int which = 0; which <= 5; which++) {
            s.cut(which);
            Checks.due("the 41st with cut " + which, s.insert(1, 0, 0, 0, 0), Stores.FULL);
            Checks.due("up with cut " + which, s.up(), true);
        }
        s.cut(-1);
        Stores.dueAll("after them", s, 40);
        Checks.due("the same as one that is there", Stores.insert(s, 3), Stores.FULL);
    }

    private static void insertLost() {
        Checks.sentence("Promise 2, \"LOST\"");
        for (int entries : new int[] {0, 4, 5, 39}) {
            for (int which = 0; which <= 5; which++) {
                BoxedPages s = Stores.with(entries);
                s.cut(which);
                Checks.due("insert with cut " + which, Stores.insert(s, entries), Stores.LOST);
                Checks.due("up with cut " + which, s.up(), false);
                s.start();
                int then = which < 3 ? entries : entries + 1;
                Stores.dueAll("after cut " + which, s, then);
                int next = s.insert(999, 900, 900, 900, 900);
                Checks.due("the next insert", next, then == 40 ? Stores.FULL : then + 1);
            }
        }
    }

    /** The only one, the one in all, and one of forty, which differs from it by 1 in one number. */
    private static void deleteTakesOneSuch() {
        Checks.sentence("Promise 3, \"Takes one such entry out\"");
        int[][] others = {
            {4, 10, 20, 30, 40}, {6, 10, 20, 30, 40}, {5, 9, 20, 30, 40}, {5, 11, 20, 30, 40}, {5, 10, 19, 30, 40},
            {5, 10, 21, 30, 40}, {5, 10, 20, 29, 40}, {5, 10, 20, 31, 40}, {5, 10, 20, 30, 39}, {5, 10, 20, 30, 41},
        };
        BoxedPages s = new BoxedPages();
        for (int[] o : others) {
            s.insert(o[0], o[1], o[2], o[3], o[4]);
        }
        Checks.due("when only others are there", s.delete(5, 10, 20, 30, 40), Stores.BAD);
        s.insert(5, 10, 20, 30, 40);
        s.insert(5, 10, 20, 30, 40);
        Checks.due("one of two", s.delete(5, 10, 20, 30, 40), others.length + 1);
        Checks.due("the other of two", s.delete(5, 10, 20, 30, 40), others.length);
        Checks.due("no third", s.delete(5, 10, 20, 30, 40), Stores.BAD);
        for (int i = 0; i < others.length; i++) {
            int[] o = others[i];
            Checks.due("each other is there yet", s.delete(o[0], o[1], o[2], o[3], o[4]), others.length - 1 - i);
        }
    }

    private static void deleteAnswersHowMany() {
        Checks.sentence("Promise 3, \"answers how many there are then\"");
        BoxedPages s = Stores.with(40);
        for (int i = 39; i >= 0; i--) {
            Checks.due("delete " + i, Stores.delete(s, i), i);
            Checks.due("size after delete " + i, s.size(), i);
            Checks.due("it is gone", Stores.pick(s, i), Stores.BAD);
            Checks.due("the others are there", Stores.countAll(s), i);
            Checks.due("sound after delete " + i, s.sound(), true);
        }
        Checks.due("delete from an empty store", Stores.delete(s, 0), Stores.BAD);
        Checks.due("insert into it", Stores.insert(s, 0), 1);
    }

    private static void deleteDown() {
        Checks.sentence("Promise 3, \"DOWN; else\"");
        for (int entries : new int[] {0, 1, 40}) {
            BoxedPages s = Stores.with(entries);
            s.cut(3);
            s.stop();
            Checks.due("of one that was there", Stores.delete(s, 0), Stores.DOWN);
            Checks.due("of one that wasn't", s.delete(50, 0, 0, 0, 0), Stores.DOWN);
            Checks.due("name -1", s.delete(-1, 0, 0, 5, 5), Stores.DOWN);
            Checks.due("name 1000", s.delete(1000, 0, 0, 5, 5), Stores.DOWN);
            Checks.due("y1 more than y2", s.delete(0, 0, 1, 0, 0), Stores.DOWN);
            Checks.due("a coordinate out of bounds", s.delete(0, -FAR - 1, 0, 0, 0), Stores.DOWN);
            s.cut(-1);
            s.start();
            Stores.dueAll("after the start", s, entries);
        }
    }

    /** None there comes before LOST, and uses no cut up. */
    private static void deleteBadWhenThereIsNone() {
        Checks.sentence("Promise 3, \"else BAD (also when there is none)\"");
        for (int entries : new int[] {0, 1, 6, 40}) {
            BoxedPages s = Stores.with(entries);
            for (int which = -1; which <= 5; which++) {
                s.cut(which);
                Checks.due("another name", s.delete(999, 0, 0, 5, 5), Stores.BAD);
                Checks.due("another rectangle", s.delete(0, 0, 0, 5, 6), Stores.BAD);
                Checks.due("a name out of bounds", s.delete(-1, 0, 0, 5, 5), Stores.BAD);
                Checks.due("a coordinate out of bounds", s.delete(0, 0, 0, FAR + 1, 5), Stores.BAD);
                Checks.due("up", s.up(), true);
            }
            s.cut(-1);
            Stores.dueAll("after them", s, entries);
        }
    }

    private static void deleteLost() {
        Checks.sentence("Promise 3, \"LOST\"");
        for (int entries : new int[] {1, 2, 6, 40}) {
            for (int which = 0; which <= 5; which++) {
                BoxedPages s = Stores.with(entries);
                s.cut(which);
                Checks.due("delete with cut " + which, Stores.delete(s, entries - 1), Stores.LOST);
                Checks.due("up with cut " + which, s.up(), false);
                s.start();
                Stores.dueAll("after cut " + which, s, which < 3 ? entries : entries - 1);
                Checks.due("the same delete again", Stores.delete(s, entries - 1), which < 3 ? entries - 1 : Stores.BAD);
            }
        }
    }

    /** All meet the window; the first in order is inserted first, last, and between. */
    private static void takeTheFirst() {
        Checks.sentence("Promise 4, \"the first entry in their order\"");
        for (int place = 0; place < 40; place++) {
            BoxedPages s = new BoxedPages();
            for (int i = 0; i < 40; i++) {
                if (i == place) {
                    s.insert(999, 0, 0, 50, 50);
                } else {
                    s.insert(i, 1, 0, 50, 50 + i % 3);
                }
            }
            Checks.due("with the first at " + place, s.take(20, 20, 20, 20), 999);
            Checks.due("no second such", s.delete(999, 0, 0, 50, 50), Stores.BAD);
            Checks.due("the others stay", s.size(), 39);
        }
    }

    private static void takeOneThatMeets() {
        Checks.sentence("Promise 4, \"that meets a window\"");
        BoxedPages s = Stores.with(40);
        int[] last = Stores.rectangle(39);
        Checks.due("by the corner of one", s.take(last[2], last[3], last[2], last[3]), 39);
        Checks.due("beside the others", s.take(6, 6, 9, 9), Stores.BAD);
        Checks.due("up to the border before the next", s.take(6, 0, 9, 5), Stores.BAD);
        Checks.due("up to the border of the next", s.take(6, 0, 10, 5), 1);
        Checks.due("from the border of the first", s.take(5, 5, 9, 9), 0);
        Checks.due("size then", s.size(), 37);
    }

    private static void takeAnswersItsName() {
        Checks.sentence("Promise 4, \"answers its name\"");
        for (int name : new int[] {0, 1, 2, 998, 999}) {
            BoxedPages s = new BoxedPages();
            s.insert(name, 3, 3, 4, 4);
            Checks.due("of the only one", s.take(3, 3, 4, 4), name);
            Checks.due("it is gone", s.size(), 0);
        }
        BoxedPages s = Stores.with(40);
        for (int i = 0; i < 40; i++) {
            Checks.due("of one of many", Stores.take(s, i), i);
            Checks.due("size then", s.size(), 39 - i);
        }
    }

    private static void takeDown() {
        Checks.sentence("Promise 4, \"DOWN; else\"");
        for (int entries : new int[] {0, 1, 40}) {
            BoxedPages s = Stores.with(entries);
            s.cut(3);
            s.stop();
            Checks.due("of all", s.take(-FAR, -FAR, FAR, FAR), Stores.DOWN);
            Checks.due("where none was", s.take(-FAR, -FAR, -FAR, -FAR), Stores.DOWN);
            Checks.due("x1 more than x2", s.take(1, 0, 0, 0), Stores.DOWN);
            Checks.due("a coordinate out of bounds", s.take(0, 0, FAR + 1, 0), Stores.DOWN);
            s.cut(-1);
            s.start();
            Stores.dueAll("after the start", s, entries);
        }
    }

    /** None met comes before LOST, and uses no cut up. */
    private static void takeBadWhenNoneMeets() {
        Checks.sentence("Promise 4, \"else BAD (bounds, or none meets it)\"");
        for (int entries : new int[] {0, 1, 6, 40}) {
            BoxedPages s = Stores.with(entries);
            for (int which = -1; which <= 5; which++) {
                s.cut(which);
                Checks.due("one below all", s.take(-FAR, -FAR, FAR, -1), Stores.BAD);
                Checks.due("one to the left of all", s.take(-FAR, -FAR, -1, FAR), Stores.BAD);
                Checks.due("between them", s.take(6, 6, 9, 9), Stores.BAD);
                Checks.due("out of bounds", s.take(-FAR, -FAR, FAR, FAR + 1), Stores.BAD);
                Checks.due("y1 more than y2", s.take(0, 1, 5, 0), Stores.BAD);
                Checks.due("up", s.up(), true);
            }
            s.cut(-1);
            Stores.dueAll("after them", s, entries);
        }
    }

    private static void takeLost() {
        Checks.sentence("Promise 4, \"LOST\"");
        for (int entries : new int[] {1, 2, 6, 40}) {
            for (int which = 0; which <= 5; which++) {
                BoxedPages s = Stores.with(entries);
                s.cut(which);
                Checks.due("take with cut " + which, Stores.take(s, entries - 1), Stores.LOST);
                Checks.due("up with cut " + which, s.up(), false);
                s.start();
                Stores.dueAll("after cut " + which, s, which < 3 ? entries : entries - 1);
                Checks.due("the same take again", Stores.take(s, entries - 1), which < 3 ? entries - 1 : Stores.BAD);
            }
        }
    }

    /** Neither what is there, nor what the disk has, nor the cut. */
    private static void refusedCallsChangeNothing() {
        Checks.sentence("Promises 2 to 4, a refused call");
        for (int entries : new int[] {0, 1, 5, 6, 40}) {
            BoxedPages s = Stores.with(entries);
            s.insert(1000, 0, 0, 0, 0);
            s.insert(0, 0, 0, 0, FAR + 1);
            s.delete(999, 0, 0, 0, 0);
            s.delete(0, 0, 0, -1, 0);
            s.take(-1, -1, -1, -1);
            s.take(0, 0, -1, 0);
            Stores.dueAll("after refused calls", s, entries);
            Checks.due("sound after refused calls", s.sound(), true);
            s.stop();
            s.start();
            Stores.dueAll("after a start", s, entries);
            Checks.due("sound after a start", s.sound(), true);
        }
    }
}
