/** The boundary cases of promises 5 to 8: cut, stop, start and up; and of each of the cuts. */
public final class PowerBoundaryTest {
    private static final int[] CUTS = {0, 1, 2, 3, 4, 5};

    public static void main(String[] args) {
        cutMinusOneToFive();
        aWrongCutSetsNothing();
        insteadOfAnyThatIsSet();
        minusOneSetsNone();
        mayBeSetWhileDown();
        forTheNextOperationThatChanges();
        notForACallThatChangesNothing();
        forOneOperationAlone();
        endsWithLostAndIsDown();
        cut0BeforeAnything();
        cut1InTheMiddleOfTheLog();
        cut2BeforeTheMark();
        cut3BehindTheMark();
        cut4BehindTheFirstPage();
        cut5BehindTheLastPage();
        aLogThrownAwayIsGone();
        stopLosesPower();
        stopFalseWhenDown();
        startComesUp();
        startFalseWhenUp();
        upTells();
        Checks.end();
    }

    private static void cutMinusOneToFive() {
        Checks.sentence("Promise 5, \"False when which is not -1 .. 5\"");
        for (boolean up : new boolean[] {true, false}) {
            BoxedPages s = Stores.with(2);
            if (!up) {
                s.stop();
            }
            for (int which = -3; which <= 8; which++) {
                Checks.due("cut(" + which + "), up " + up, s.cut(which), which >= -1 && which <= 5);
            }
            Checks.due("cut of the least, up " + up, s.cut(Integer.MIN_VALUE), false);
            Checks.due("cut of the greatest, up " + up, s.cut(Integer.MAX_VALUE), false);
            Checks.due("it changes nothing, up " + up, s.up(), up);
        }
    }

    private static void aWrongCutSetsNothing() {
        Checks.sentence("Promise 5, \"False\" sets none and leaves the one that is set");
        for (int wrong : new int[] {-2, 6, Integer.MIN_VALUE, Integer.MAX_VALUE}) {
            BoxedPages none = Stores.with(2);
            none.cut(wrong);
            Checks.due("none is set by " + wrong, Stores.insert(none, 2), 3);
            for (int which : CUTS) {
                BoxedPages s = Stores.with(2);
                s.cut(which);
                s.cut(wrong);
                Checks.due(which + " is set yet after " + wrong, Stores.insert(s, 2), Stores.LOST);
                s.start();
                Stores.dueAll("by cut " + which, s, which < 3 ? 2 : 3);
            }
        }
    }

    private static void insteadOfAnyThatIsSet() {
        Checks.sentence("Promise 5, \"instead of any that is set\"");
        for (int first : CUTS) {
            for (int second : CUTS) {
                BoxedPages s = Stores.with(6);
                Checks.due("the first", s.cut(first), true);
                Checks.due("the second", s.cut(second), true);
                Checks.due("insert", Stores.insert(s, 6), Stores.LOST);
                s.start();
                Stores.dueAll("cut " + second + " instead of " + first, s, second < 3 ? 6 : 7);
                Checks.due("the first is not set any more", s.insert(999, 500, 500, 500, 500) > 0, true);
            }
        }
    }

    private static void minusOneSetsNone() {
        Checks.sentence("Promise 5, \"-1 sets none\"");
        BoxedPages s = Stores.with(2);
        Checks.due("when none is set", s.cut(-1), true);
        Checks.due("insert", Stores.insert(s, 2), 3);
        for (int which : CUTS) {
            s.cut(which);
            Checks.due("when " + which + " is set", s.cut(-1), true);
            Checks.due("delete", Stores.delete(s, 2), 2);
            Checks.due("insert", Stores.insert(s, 2), 3);
        }
    }

    private static void mayBeSetWhileDown() {
        Checks.sentence("Promise 5, \"It may be set while the store is down\"");
        for (int which : CUTS) {
            BoxedPages s = Stores.with(6);
            s.stop();
            Checks.due("set " + which, s.cut(which), true);
            Checks.due("down yet", s.up(), false);
            s.start();
            Stores.dueAll("the start is not cut off", s, 6);
            Checks.due("insert", Stores.insert(s, 6), Stores.LOST);
            s.cut(-1);
            s.start();
            Stores.dueAll("by cut " + which, s, which < 3 ? 6 : 7);
            Checks.due("none is set", Stores.insert(s, 20) > 0, true);
            s.stop();
            s.cut(which);
            s.cut(-1);
            s.start();
            Checks.due("none is set again", Stores.delete(s, 20) > 0, true);
        }
    }

    private static void forTheNextOperationThatChanges() {
        Checks.sentence("Promise 5, \"for the next operation that changes the store\"");
        for (int which : CUTS) {
            BoxedPages s = Stores.with(6);
            s.cut(which);
            Checks.due("insert is one", Stores.insert(s, 6), Stores.LOST);
            s = Stores.with(6);
            s.cut(which);
            Checks.due("delete is one", Stores.delete(s, 5), Stores.LOST);
            s = Stores.with(6);
            s.cut(which);
            Checks.due("take is one", Stores.take(s, 5), Stores.LOST);
        }
    }

    /** Questions, refused calls, stop and start: the cut waits behind them all. */
    private static void notForACallThatChangesNothing() {
        Checks.sentence("Promise 5, the next operation \"that changes the store\"");
        for (int which : CUTS) {
            BoxedPages s = Stores.with(40);
            s.cut(which);
            Checks.due("size", s.size(), 40);
            Checks.due("count", s.count(0, 0, 5, 5), 1);
            Checks.due("within", s.within(0, 0, 5, 5), 1);
            Checks.due("pick", s.pick(0, 0, 5, 5, 0), 0);
            Checks.due("distance", s.distance(0, 0), 0);
            Checks.due("nearest", s.nearest(0, 0), 0);
            Checks.due("around", s.around(0), 0);
            Checks.due("sound", s.sound(), true);
            Checks.due("frugal", s.frugal(), true);
            Checks.due("insert out of bounds", s.insert(1000, 0, 0, 0, 0), Stores.BAD);
            Checks.due("insert into a full one", s.insert(1, 0, 0, 0, 0), Stores.FULL);
            Checks.due("delete out of bounds", s.delete(-1, 0, 0, 0, 0), Stores.BAD);
            Checks.due("delete of none", s.delete(1, 0, 0, 0, 0), Stores.BAD);
            Checks.due("take out of bounds", s.take(1, 0, 0, 0), Stores.BAD);
            Checks.due("take of none", s.take(-1, -1, -1, -1), Stores.BAD);
            Checks.due("start when up", s.start(), false);
            s.stop();
            Checks.due("insert when down", Stores.insert(s, 0), Stores.DOWN);
            Checks.due("delete when down", Stores.delete(s, 0), Stores.DOWN);
            Checks.due("take when down", Stores.take(s, 0), Stores.DOWN);
            s.start();
            Checks.due("the change", Stores.delete(s, 39), Stores.LOST);
            s.start();
            Stores.dueAll("by cut " + which, s, which < 3 ? 40 : 39);
        }
    }

    private static void forOneOperationAlone() {
        Checks.sentence("Promise 5, the \"next\" operation alone");
        for (int which : CUTS) {
            BoxedPages s = Stores.with(6);
            s.cut(which);
            Stores.insert(s, 6);
            s.start();
            int then = which < 3 ? 6 : 7;
            Checks.due("the second insert", Stores.insert(s, 7), then + 1);
            Checks.due("a delete", Stores.delete(s, 7), then);
            Checks.due("a take", Stores.take(s, 0), 0);
            Checks.due("up", s.up(), true);
        }
    }

    private static void endsWithLostAndIsDown() {
        Checks.sentence("\"it ends at once with the answer LOST and the store is down\"");
        for (int which : CUTS) {
            BoxedPages s = Stores.with(6);
            s.cut(which);
            Checks.due("insert", Stores.insert(s, 6), Stores.LOST);
            Checks.due("up", s.up(), false);
            Checks.due("size", s.size(), Stores.DOWN);
            Checks.due("count", s.count(0, 0, 5, 5), Stores.DOWN);
            Checks.due("within", s.within(0, 0, 5, 5), Stores.DOWN);
            Checks.due("pick", s.pick(0, 0, 5, 5, 0), Stores.DOWN);
            Checks.due("distance", s.distance(0, 0), Stores.DOWN);
            Checks.due("nearest", s.nearest(0, 0), Stores.DOWN);
            Checks.due("around", s.around(0), Stores.NONE);
            Checks.due("sound", s.sound(), false);
            Checks.due("insert again", Stores.insert(s, 7), Stores.DOWN);
            Checks.due("delete", Stores.delete(s, 0), Stores.DOWN);
            Checks.due("take", Stores.take(s, 0), Stores.DOWN);
        }
    }

    private static void cut0BeforeAnything() {
        Checks.sentence("Cut \"0 before anything\"");
        cutEverywhere(0, false);
    }

    private static void cut1InTheMiddleOfTheLog() {
        Checks.sentence("Cut \"1 in the middle of the log (the mark isn't written)\"");
        cutEverywhere(1, false);
    }

    private static void cut2BeforeTheMark() {
        Checks.sentence("Cut \"2 before the mark\"");
        cutEverywhere(2, false);
    }

    private static void cut3BehindTheMark() {
        Checks.sentence("Cut \"3 behind the mark\"");
        cutEverywhere(3, true);
    }

    private static void cut4BehindTheFirstPage() {
        Checks.sentence("Cut \"4 behind the first page\"");
        cutEverywhere(4, true);
    }

    private static void cut5BehindTheLastPage() {
        Checks.sentence("Cut \"5 behind the last page and before the log is emptied\"");
        cutEverywhere(5, true);
    }

    /** At each number of entries: pages are split, merged, or just written; the root goes up and down. */
    private static void cutEverywhere(int which, boolean done) {
        for (int entries = 0; entries <= 40; entries++) {
            if (entries < 40) {
                BoxedPages s = Stores.with(entries);
                s.cut(which);
                Checks.due("insert with " + entries, Stores.insert(s, entries), Stores.LOST);
                dueAfter("insert with " + entries, s, done ? entries + 1 : entries);
            }
            if (entries > 0) {
                BoxedPages s = Stores.with(entries);
                s.cut(which);
                Checks.due("delete with " + entries, Stores.delete(s, entries - 1), Stores.LOST);
                dueAfter("delete with " + entries, s, done ? entries - 1 : entries);
                s = Stores.with(entries);
                s.cut(which);
                Checks.due("take with " + entries, Stores.take(s, entries - 1), Stores.LOST);
                dueAfter("take with " + entries, s, done ? entries - 1 : entries);
            }
        }
    }

    private static void dueAfter(String what, BoxedPages s, int entries) {
        Checks.due(what + ": start", s.start(), true);
        Stores.dueAll(what, s, entries);
        Checks.due(what + ": sound", s.sound(), true);
        s.stop();
        s.start();
        Stores.dueAll(what + ", after another start", s, entries);
    }

    /** What a log without its mark had must not come back with the next mark. */
    private static void aLogThrownAwayIsGone() {
        Checks.sentence("\"one without it is thrown away\"");
        for (int first = 0; first <= 2; first++) {
            for (int second = 0; second <= 5; second++) {
                BoxedPages s = Stores.with(20);
                s.cut(first);
                Stores.insert(s, 20);
                s.start();
                s.cut(second);
                Checks.due("a change elsewhere", Stores.delete(s, 19), Stores.LOST);
                s.start();
                Stores.dueAll("cut " + first + ", then " + second, s, second < 3 ? 20 : 19);
                Checks.due("sound", s.sound(), true);
            }
        }
        for (int first = 3; first <= 5; first++) {
            BoxedPages s = Stores.with(20);
            s.cut(first);
            Stores.insert(s, 20);
            s.start();
            Checks.due("a change behind it", Stores.delete(s, 20), 20);
            s.stop();
            s.start();
            Stores.dueAll("a log with its mark is written once", s, 20);
        }
    }

    private static void stopLosesPower() {
        Checks.sentence("Promise 6, \"The power is lost between two operations\"");
        for (int entries = 0; entries <= 40; entries++) {
            BoxedPages s = Stores.with(entries);
            Checks.due("stop", s.stop(), true);
            Checks.due("up", s.up(), false);
            Checks.due("size", s.size(), Stores.DOWN);
            s.start();
            Stores.dueAll("each operation before it was done wholly", s, entries);
            Checks.due("sound", s.sound(), true);
        }
    }

    private static void stopFalseWhenDown() {
        Checks.sentence("Promise 6, \"false when the store is down\"");
        BoxedPages s = Stores.with(6);
        Checks.due("when up", s.stop(), true);
        Checks.due("when down", s.stop(), false);
        Checks.due("when down again", s.stop(), false);
        Checks.due("down yet", s.up(), false);
        s.start();
        Stores.dueAll("nothing is lost", s, 6);
        for (int which : CUTS) {
            BoxedPages lost = Stores.with(6);
            lost.cut(which);
            Stores.insert(lost, 6);
            Checks.due("when down by cut " + which, lost.stop(), false);
            lost.start();
            Stores.dueAll("it harms no log", lost, which < 3 ? 6 : 7);
            Checks.due("when up again", lost.stop(), true);
        }
    }

    private static void startComesUp() {
        Checks.sentence("Promise 7, \"The store comes up\"");
        for (int entries : new int[] {0, 1, 5, 6, 40}) {
            BoxedPages s = Stores.with(entries);
            for (int turn = 0; turn < 5; turn++) {
                s.stop();
                Checks.due("start", s.start(), true);
                Checks.due("up", s.up(), true);
                Stores.dueAll("after a start", s, entries);
            }
            Checks.due("insert after it", Stores.insert(s, 0), entries == 40 ? Stores.FULL : entries + 1);
        }
    }

    private static void startFalseWhenUp() {
        Checks.sentence("Promise 7, \"false when it is up\"");
        Checks.due("when new", new BoxedPages().start(), false);
        BoxedPages s = Stores.with(6);
        Checks.due("when up", s.start(), false);
        Stores.dueAll("it changes nothing", s, 6);
        s.stop();
        Checks.due("when down", s.start(), true);
        Checks.due("when up again", s.start(), false);
        for (int which : CUTS) {
            BoxedPages lost = Stores.with(6);
            lost.cut(which);
            Stores.insert(lost, 6);
            Checks.due("when down by cut " + which, lost.start(), true);
            Checks.due("when up behind it", lost.start(), false);
            Checks.due("a cut is not set by it", Stores.insert(lost, 20) > 0, true);
        }
    }

    private static void upTells() {
        Checks.sentence("Promise 8, \"Whether the store is up\"");
        BoxedPages s = new BoxedPages();
        Checks.due("when new", s.up(), true);
        s.cut(0);
        Checks.due("with a cut set", s.up(), true);
        s.insert(1, 0, 0, 0, 0);
        Checks.due("when lost", s.up(), false);
        s.cut(-1);
        Checks.due("with none set", s.up(), false);
        s.start();
        Checks.due("when started", s.up(), true);
        s.start();
        Checks.due("when started twice", s.up(), true);
        s.stop();
        Checks.due("when stopped", s.up(), false);
        s.stop();
        Checks.due("when stopped twice", s.up(), false);
    }
}
