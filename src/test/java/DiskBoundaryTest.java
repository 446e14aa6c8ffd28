/** The steps on the disk, looked at from inside at each of the cuts: how far the disk has come. */
public final class DiskBoundaryTest {
    public static void main(String[] args) {
        before();
        thePagesThatItChanges();
        inTheMiddleOfTheLog();
        aMarkBehindThem();
        oneAfterTheOther();
        theLogIsEmptied();
        aRefusedCallWritesNothing();
        Checks.end();
    }

    /** Delete where a page is merged, and insert where the root is split, change the most pages. */
    private static BoxedPages cutOff(int entries, boolean insert, int which) {
        BoxedPages s = Stores.with(entries);
        s.cut(which);
        if (insert) {
            Stores.insert(s, entries);
        } else {
            Stores.delete(s, entries - 1);
        }
        return s;
    }

    private static int[][] placesBefore(int entries) {
        return places(Stores.with(entries));
    }

    private static int[][] placesAfter(int entries, boolean insert) {
        BoxedPages s = cutOff(entries, insert, -1);
        return places(s);
    }

    private static int[][] places(BoxedPages s) {
        int[][] places = (int[][]) Inside.get(Inside.get(s, "disk"), "places");
        int[][] copy = new int[places.length][];
        for (int i = 0; i < places.length; i++) {
            copy[i] = places[i].clone();
        }
        return copy;
    }

    private static int differing(int[][] one, int[][] two) {
        int sum = 0;
        for (int i = 0; i < one.length; i++) {
            sum += java.util.Arrays.equals(one[i], two[i]) ? 0 : 1;
        }
        return sum;
    }

    private static int logged(BoxedPages s) {
        return Inside.number(Inside.get(s, "disk"), "logged");
    }

    private static boolean marked(BoxedPages s) {
        return (Boolean) Inside.get(Inside.get(s, "disk"), "marked");
    }

    /** A change at each number of entries, and how many pages it writes in all. */
    private interface Look {
        void at(String what, int entries, boolean insert, int pages);
    }

    private static void everywhere(Look look) {
        for (int entries = 0; entries <= 40; entries++) {
            for (boolean insert : new boolean[] {true, false}) {
                if (insert ? entries < 40 : entries > 0) {
                    int pages = differing(placesBefore(entries), placesAfter(entries, insert));
                    look.at((insert ? "insert with " : "delete with ") + entries, entries, insert, pages);
                }
            }
        }
    }

    private static void before() {
        Checks.sentence("Cut \"0 before anything\"");
        everywhere((what, entries, insert, pages) -> {
            BoxedPages s = cutOff(entries, insert, 0);
            Checks.due(what + ": pages in the log", logged(s), 0);
            Checks.due(what + ": mark", marked(s), false);
            Checks.due(what + ": pages written", differing(placesBefore(entries), places(s)), 0);
        });
    }

    private static void thePagesThatItChanges() {
        Checks.sentence("\"the pages that it changes are written into the log\", cut \"2 before the mark\"");
        everywhere((what, entries, insert, pages) -> {
            BoxedPages s = cutOff(entries, insert, 2);
            Checks.due(what + ": it changes more than one", pages >= 2, true);
            Checks.due(what + ": pages in the log", logged(s), pages);
            Checks.due(what + ": mark", marked(s), false);
            Checks.due(what + ": pages written", differing(placesBefore(entries), places(s)), 0);
        });
    }

    private static void inTheMiddleOfTheLog() {
        Checks.sentence("Cut \"1 in the middle of the log (the mark isn't written)\"");
        everywhere((what, entries, insert, pages) -> {
            BoxedPages s = cutOff(entries, insert, 1);
            Checks.due(what + ": the log is begun", logged(s) > 0, true);
            Checks.due(what + ": and not all is there", logged(s) < pages, true);
            Checks.due(what + ": mark", marked(s), false);
            Checks.due(what + ": pages written", differing(placesBefore(entries), places(s)), 0);
        });
    }

    private static void aMarkBehindThem() {
        Checks.sentence("\"a mark behind them says that this is all\", cut \"3 behind the mark\"");
        everywhere((what, entries, insert, pages) -> {
            BoxedPages s = cutOff(entries, insert, 3);
            Checks.due(what + ": pages in the log", logged(s), pages);
            Checks.due(what + ": mark", marked(s), true);
            Checks.due(what + ": pages written", differing(placesBefore(entries), places(s)), 0);
        });
    }

    private static void oneAfterTheOther() {
        Checks.sentence("\"written to their places, one after the other\", cuts \"4 behind the first page\" and 5");
        everywhere((what, entries, insert, pages) -> {
            BoxedPages first = cutOff(entries, insert, 4);
            Checks.due(what + ": the first page written", differing(placesBefore(entries), places(first)), 1);
            Checks.due(what + ": pages to be written", differing(placesAfter(entries, insert), places(first)), pages - 1);
            BoxedPages last = cutOff(entries, insert, 5);
            Checks.due(what + ": the last page written", differing(placesBefore(entries), places(last)), pages);
            Checks.due(what + ": no page to be written", differing(placesAfter(entries, insert), places(last)), 0);
            Checks.due(what + ": the log behind the first", marked(first) && logged(first) == pages, true);
            Checks.due(what + ": the log before it is emptied", marked(last) && logged(last) == pages, true);
        });
    }

    private static void theLogIsEmptied() {
        Checks.sentence("\"the log is emptied\"");
        everywhere((what, entries, insert, pages) -> {
            for (int which = -1; which <= 5; which++) {
                BoxedPages s = cutOff(entries, insert, which);
                s.start();
                Checks.due(what + ", cut " + which + ": pages in the log", logged(s), 0);
                Checks.due(what + ", cut " + which + ": mark", marked(s), false);
                boolean done = which == -1 || which >= 3;
                int[][] want = done ? placesAfter(entries, insert) : placesBefore(entries);
                Checks.due(what + ", cut " + which + ": wrong pages", differing(want, places(s)), 0);
            }
        });
    }

    private static void aRefusedCallWritesNothing() {
        Checks.sentence("A refused call writes nothing");
        BoxedPages s = Stores.with(40);
        int[][] before = places(s);
        s.insert(1, 0, 0, 0, 0);
        s.insert(1000, 0, 0, 0, 0);
        s.delete(1, 0, 0, 0, 0);
        s.delete(-1, 0, 0, 0, 0);
        s.take(6, 6, 9, 9);
        s.take(1, 0, 0, 0);
        Checks.due("pages written", differing(before, places(s)), 0);
        Checks.due("pages in the log", logged(s), 0);
        Checks.due("sound", s.sound() && Inside.isTree(s), true);
    }
}
