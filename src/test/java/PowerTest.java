/** Promises 5 to 8: cut, stop, start and up; and that a change is there wholly or not at all. */
public final class PowerTest {
    public static void main(String[] args) {
        stopAndStart();
        cutBounds();
        everyCutOfEveryChange();
        refusedCallsLeaveTheCut();
        aCutIsUsedOnce();
        aLaterCutReplaces();
        aCutOutlivesTheLossOfPower();
        downAnswers();
        theStepsOnTheDisk();
        Checks.end();
    }

    private static BoxedPages filled(int entries) {
        BoxedPages s = new BoxedPages();
        for (int i = 0; i < entries; i++) {
            s.insert(i, i % 6 * 10, i / 6 * 10, i % 6 * 10 + 5, i / 6 * 10 + 5);
        }
        return s;
    }

    private static void stopAndStart() {
        BoxedPages s = filled(23);
        Checks.due("start when up", s.start(), false);
        Checks.due("stop", s.stop(), true);
        Checks.due("up after stop", s.up(), false);
        Checks.due("stop when down", s.stop(), false);
        Checks.due("up after a second stop", s.up(), false);
        Checks.due("start", s.start(), true);
        Checks.due("up after start", s.up(), true);
        Checks.due("start again", s.start(), false);
        Checks.due("size", s.size(), 23);
        for (int i = 0; i < 23; i++) {
            int x = i % 6 * 10;
            int y = i / 6 * 10;
            Checks.due("each entry", s.pick(x, y, x, y, 0), i);
        }
        Checks.due("sound", s.sound(), true);
    }

    private static void cutBounds() {
        BoxedPages s = new BoxedPages();
        for (int which = -4; which <= 9; which++) {
            Checks.due("cut(" + which + ")", s.cut(which), which >= -1 && which <= 5);
        }
        Checks.due("cut(least)", s.cut(Integer.MIN_VALUE), false);
        Checks.due("cut(greatest)", s.cut(Integer.MAX_VALUE), false);
        Checks.due("a wrong cut leaves the one that is set", s.insert(1, 0, 0, 0, 0), -4);
        Checks.due("which is the fifth", s.start(), true);
        Checks.due("so it was done", s.size(), 1);
    }

    private static void everyCutOfEveryChange() {
        for (int entries = 1; entries < 39; entries++) {
            for (int which = 0; which <= 5; which++) {
                for (int change = 0; change < 3; change++) {
                    cutOne(entries, which, change);
                }
            }
        }
    }

    private static void cutOne(int entries, int which, int change) {
        String what = "entries " + entries + ", cut " + which + ", change " + change + ": ";
        BoxedPages s = filled(entries);
        s.cut(which);
        int answer = change == 0 ? s.insert(77, 3, 3, 3, 3) : change == 1 ? s.delete(0, 0, 0, 5, 5) : s.take(0, 0, 5, 5);
        Checks.due(what + "answer", answer, -4);
        Checks.due(what + "up", s.up(), false);
        Checks.due(what + "size while down", s.size(), -3);
        Checks.due(what + "start", s.start(), true);
        boolean done = which >= 3;
        Checks.due(what + "size", s.size(), !done ? entries : change == 0 ? entries + 1 : entries - 1);
        Checks.due(what + "who is there", s.count(3, 3, 3, 3), !done ? 1 : change == 0 ? 2 : 0);
        Checks.due(what + "sound", s.sound() && Inside.isTree(s), true);
        Checks.due(what + "the next change", s.insert(5, 900, 900, 900, 900), s.size());
        Checks.due(what + "all of them", s.count(-1000, -1000, 1000, 1000), s.size());
        s.stop();
        s.start();
        Checks.due(what + "the next change outlives", s.nearest(900, 900), 5);
    }

    private static void refusedCallsLeaveTheCut() {
        BoxedPages s = filled(3);
        s.cut(0);
        Checks.due("wrong insert", s.insert(-1, 0, 0, 0, 0), -1);
        Checks.due("wrong delete", s.delete(50, 0, 0, 0, 0), -1);
        Checks.due("wrong take", s.take(1, 0, 0, 0), -1);
        Checks.due("take of none", s.take(-5, -5, -5, -5), -1);
        Checks.due("count", s.count(0, 0, 0, 0), 1);
        Checks.due("nearest", s.nearest(0, 0), 0);
        Checks.due("up yet", s.up(), true);
        Checks.due("the change", s.take(0, 0, 0, 0), -4);
        Checks.due("insert while down", s.insert(1, 0, 0, 0, 0), -3);
        s.start();
        Checks.due("size", s.size(), 3);
    }

    private static void aCutIsUsedOnce() {
        BoxedPages s = filled(3);
        s.cut(1);
        Checks.due("lost", s.insert(1, 0, 0, 0, 0), -4);
        s.start();
        Checks.due("not lost", s.insert(1, 0, 0, 0, 0), 4);
    }

    private static void aLaterCutReplaces() {
        BoxedPages s = filled(3);
        s.cut(0);
        s.cut(5);
        Checks.due("lost", s.insert(1, 0, 0, 0, 0), -4);
        s.start();
        Checks.due("done", s.size(), 4);
        s.cut(5);
        s.cut(0);
        Checks.due("lost", s.insert(1, 0, 0, 0, 0), -4);
        s.start();
        Checks.due("not done", s.size(), 4);
        s.cut(5);
        s.cut(-1);
        Checks.due("no cut", s.insert(1, 0, 0, 0, 0), 5);
    }

    private static void aCutOutlivesTheLossOfPower() {
        BoxedPages s = filled(3);
        s.cut(4);
        s.stop();
        s.start();
        Checks.due("set before the stop", s.insert(1, 0, 0, 0, 0), -4);
        Checks.due("set while down", s.cut(2), true);
        s.start();
        Checks.due("the first is done", s.size(), 4);
        Checks.due("the second", s.insert(1, 0, 0, 0, 0), -4);
        s.start();
        Checks.due("the second isn't", s.size(), 4);
    }

    private static void downAnswers() {
        BoxedPages s = filled(8);
        s.count(0, 0, 9, 9);
        s.stop();
        Checks.due("size", s.size(), -3);
        Checks.due("count", s.count(0, 0, 9, 9), -3);
        Checks.due("count, wrong too", s.count(1, 0, 0, 0), -3);
        Checks.due("within", s.within(0, 0, 9, 9), -3);
        Checks.due("within, wrong too", s.within(1, 0, 0, 0), -3);
        Checks.due("pick", s.pick(0, 0, 9, 9, 0), -3);
        Checks.due("pick, wrong too", s.pick(0, 0, 9, 9, -1), -3);
        Checks.due("distance", s.distance(0, 0), -3);
        Checks.due("distance, wrong too", s.distance(1000000001, 0), -3);
        Checks.due("nearest", s.nearest(0, 0), -3);
        Checks.due("nearest, wrong too", s.nearest(0, -1000000001), -3);
        Checks.due("around", s.around(0), 2000000000);
        Checks.due("sound", s.sound(), false);
        Checks.due("frugal", s.frugal(), true);
    }

    /** The places, the log and its mark, as the document tells them of each cut. */
    private static void theStepsOnTheDisk() {
        for (int which = 0; which <= 5; which++) {
            BoxedPages s = filled(30);
            int[][] before = placesOf(s);
            s.cut(which);
            s.delete(12, 0, 20, 5, 25);
            Object disk = Inside.get(s, "disk");
            int logged = Inside.number(disk, "logged");
            int written = differing(before, placesOf(s));
            Checks.due("cut " + which + " log begun", logged > 0, which > 0);
            Checks.due("cut " + which + " mark", (Boolean) Inside.get(disk, "marked"), which >= 3);
            Checks.due("cut " + which + " pages written", written, which < 4 ? 0 : which == 4 ? 1 : logged);
            s.start();
            Checks.due("cut " + which + " log emptied", Inside.number(disk, "logged"), 0);
            Checks.due("cut " + which + " pages then", differing(before, placesOf(s)) > 1, which >= 3);
        }
    }

    private static int[][] placesOf(BoxedPages s) {
        int[][] places = (int[][]) Inside.get(Inside.get(s, "disk"), "places");
        int[][] copy = new int[places.length][];
        for (int i = 0; i < places.length; i++) {
            copy[i] = places[i].clone();
        }
        return copy;
    }

    private static int differing(int[][] one, int[][] two) {
        int sum = 0;
        for (int i = 0; i < one.length; i++) {
            sum += java.util.Arrays.equals(one[i], two[i]) ? 0 : 1;
        }
        return sum;
    }
}
