/**
 * Rectangles with names, kept on a disk of pages in a tree of rectangles around rectangles,
 * and kept through losses of power by a log.
 */
public final class BoxedPages {
    public static final int BAD = -1;
    public static final int FULL = -2;
    public static final int DOWN = -3;
    public static final int LOST = -4;
    public static final int NONE = 2000000000;

    private static final int MOST_ENTRIES = 40;
    private static final int LAST_NAME = 999;
    private static final int LAST_COORDINATE = 1000000000;

    private static final int MOST_BELOW = 5;
    private static final int LEAST_BELOW = 2;

    // A row of zeros is a free page, so that a new disk needs no writing but that of its root.
    private static final int FREE = 0;
    private static final int LOWEST = 1;
    // A root there that is to be split has 6 pages below, of 8 entries at least: more than 40.
    private static final int HIGHEST = 4;

    // 40 entries fill at most 20 lowest pages, with 10, 5 and 1 above: 36, and the header.
    private static final int PAGES = 40;
    private static final int HEADER = 0;
    private static final int FIRST_ROOT = 1;

    private static final int ROW_HEAD = 2;
    private static final int BOX_WIDTH = 5;
    private static final int ROW_WIDTH = ROW_HEAD + MOST_BELOW * BOX_WIDTH;

    private static final int ALL_SLOTS = -1;

    // Above each square and each sum of two areas: these are 8 * 10^18 at most.
    private static final long BEYOND_ALL = 9223372036854775807L;

    private static final int NO_CUT = -1;
    private static final int CUT_AT_ONCE = 0;
    private static final int CUT_IN_LOG = 1;
    private static final int CUT_BEFORE_MARK = 2;
    private static final int CUT_BEHIND_MARK = 3;
    private static final int CUT_BEHIND_FIRST_PAGE = 4;
    private static final int CUT_BEHIND_LAST_PAGE = 5;

    private final Disk disk;
    private final Tree tree;
    private final Search search;
    private final Box asked;
    private boolean running;
    private boolean thrifty;
    private int nextCut;

    public BoxedPages() {
        disk = new Disk();
        tree = new Tree();
        search = new Search();
        asked = new Box();
        running = true;
        thrifty = true;
        nextCut = NO_CUT;
    }

    public int insert(int name, int x1, int y1, int x2, int y2) {
        if (!running) {
            return DOWN;
        }
        if (!isName(name) || !isRectangle(x1, y1, x2, y2)) {
            return BAD;
        }
        if (tree.entries >= MOST_ENTRIES) {
            return FULL;
        }
        asked.assign(x1, y1, x2, y2, name);
        tree.plant(asked);
        return settle(tree.entries);
    }

    public int delete(int name, int x1, int y1, int x2, int y2) {
        if (!running) {
            return DOWN;
        }
        if (!isName(name) || !isRectangle(x1, y1, x2, y2)) {
            return BAD;
        }
        asked.assign(x1, y1, x2, y2, name);
        return tree.uproot(asked) ? settle(tree.entries) : BAD;
    }

    public int take(int x1, int y1, int x2, int y2) {
        if (!running) {
            return DOWN;
        }
        if (!isRectangle(x1, y1, x2, y2)) {
            return BAD;
        }
        searchWindow(x1, y1, x2, y2);
        if (search.hits == 0) {
            return BAD;
        }
        Box first = search.found[0];
        return tree.uproot(first) ? settle(first.below) : BAD;
    }

    public boolean cut(int which) {
        if (which < NO_CUT || which > CUT_BEHIND_LAST_PAGE) {
            return false;
        }
        nextCut = which;
        return true;
    }

    public boolean stop() {
        if (!running) {
            return false;
        }
        losePower();
        return true;
    }

    public boolean start() {
        if (running) {
            return false;
        }
        disk.recover();
        tree.readFrom(disk);
        running = true;
        return true;
    }

    public boolean up() {
        return running;
    }

    public int size() {
        return running ? tree.entries : DOWN;
    }

    public int count(int x1, int y1, int x2, int y2) {
        if (!running) {
            return DOWN;
        }
        if (!isRectangle(x1, y1, x2, y2)) {
            return BAD;
        }
        searchWindow(x1, y1, x2, y2);
        noteThrift();
        return search.hits;
    }

    public int within(int x1, int y1, int x2, int y2) {
        if (!running) {
            return DOWN;
        }
        if (!isRectangle(x1, y1, x2, y2)) {
            return BAD;
        }
        searchWindow(x1, y1, x2, y2);
        noteThrift();
        return search.hitsInside(asked);
    }

    public int pick(int x1, int y1, int x2, int y2, int k) {
        if (!running) {
            return DOWN;
        }
        if (!isRectangle(x1, y1, x2, y2)) {
            return BAD;
        }
        searchWindow(x1, y1, x2, y2);
        if (k < 0 || k >= search.hits) {
            return BAD;
        }
        noteThrift();
        return search.found[k].below;
    }

    public long distance(int x, int y) {
        if (!running) {
            return DOWN;
        }
        if (!isCoordinate(x) || !isCoordinate(y) || tree.entries == 0) {
            return BAD;
        }
        searchPoint(x, y);
        return search.least;
    }

    public int nearest(int x, int y) {
        if (!running) {
            return DOWN;
        }
        if (!isCoordinate(x) || !isCoordinate(y) || tree.entries == 0) {
            return BAD;
        }
        searchPoint(x, y);
        return search.closest.below;
    }

    public int around(int side) {
        if (!running || tree.entries == 0) {
            return NONE;
        }
        tree.at(tree.root).frame(ALL_SLOTS, asked);
        switch (side) {
            case 0:
                return asked.x1;
            case 1:
                return asked.y1;
            case 2:
                return asked.x2;
            case 3:
                return asked.y2;
            default:
                return NONE;
        }
    }

    public boolean sound() {
        return running && tree.isWhole();
    }

    public boolean frugal() {
        return thrifty;
    }

    private static boolean isName(int name) {
        return name >= 0 && name <= LAST_NAME;
    }

    private static boolean isCoordinate(int value) {
        return value >= -LAST_COORDINATE && value <= LAST_COORDINATE;
    }

    private static boolean isRectangle(int x1, int y1, int x2, int y2) {
        return isCoordinate(x1) && isCoordinate(y1) && isCoordinate(x2) && isCoordinate(y2)
            && x1 <= x2 && y1 <= y2;
    }

    private void searchWindow(int x1, int y1, int x2, int y2) {
        asked.assign(x1, y1, x2, y2, 0);
        search.gather(tree, asked);
    }

    /** Apart from the search: a take is no question, and a pick may yet be refused. */
    private void noteThrift() {
        thrifty = search.lookedOnlyWhereMet(tree, asked);
    }

    private void searchPoint(int x, int y) {
        search.approach(tree, x, y);
        thrifty = search.lookedNoFarther(tree, x, y);
    }

    /** Brings what memory has changed to the disk; the cut that is set is used up by it. */
    private int settle(int answer) {
        int where = nextCut;
        nextCut = NO_CUT;
        if (disk.keep(tree, where)) {
            tree.markUnchanged();
            return answer;
        }
        losePower();
        return LOST;
    }

    private void losePower() {
        tree.forget();
        running = false;
    }

    /** A rectangle with what it stands for: an entry's name, or the number of the page below. */
    private static final class Box {
        int x1;
        int y1;
        int x2;
        int y2;
        int below;

        void assign(int newX1, int newY1, int newX2, int newY2, int newBelow) {
            x1 = newX1;
            y1 = newY1;
            x2 = newX2;
            y2 = newY2;
            below = newBelow;
        }

        void become(Box other) {
            x1 = other.x1;
            y1 = other.y1;
            x2 = other.x2;
            y2 = other.y2;
            below = other.below;
        }

        /** Makes the rectangle one that any other widens to just itself. */
        void shrinkToNothing() {
            x1 = NONE;
            y1 = NONE;
            x2 = -NONE;
            y2 = -NONE;
        }

        void widen(Box other) {
            x1 = other.x1 < x1 ? other.x1 : x1;
            y1 = other.y1 < y1 ? other.y1 : y1;
            x2 = other.x2 > x2 ? other.x2 : x2;
            y2 = other.y2 > y2 ? other.y2 : y2;
        }

        boolean meets(Box other) {
            return x1 <= other.x2 && other.x1 <= x2 && y1 <= other.y2 && other.y1 <= y2;
        }

        boolean holds(Box other) {
            return x1 <= other.x1 && other.x2 <= x2 && y1 <= other.y1 && other.y2 <= y2;
        }

        boolean isSame(Box other) {
            return x1 == other.x1 && y1 == other.y1 && x2 == other.x2 && y2 == other.y2
                && below == other.below;
        }

        boolean precedes(Box other) {
            if (x1 != other.x1) {
                return x1 < other.x1;
            }
            if (y1 != other.y1) {
                return y1 < other.y1;
            }
            if (x2 != other.x2) {
                return x2 < other.x2;
            }
            if (y2 != other.y2) {
                return y2 < other.y2;
            }
            return below < other.below;
        }

        long area() {
            return ((long) x2 - x1) * ((long) y2 - y1);
        }

        /** Tells boxes apart whose area is 0, as points and lines are. */
        long rim() {
            return ((long) x2 - x1) + ((long) y2 - y1);
        }

        long areaWith(Box other) {
            long width = (long) Math.max(x2, other.x2) - Math.min(x1, other.x1);
            long height = (long) Math.max(y2, other.y2) - Math.min(y1, other.y1);
            return width * height;
        }

        /** The square of the distance from a point: at most 8 * 10^18, which a long holds. */
        long squareFrom(int x, int y) {
            long dx = x < x1 ? (long) x1 - x : x > x2 ? (long) x - x2 : 0L;
            long dy = y < y1 ? (long) y1 - y : y > y2 ? (long) y - y2 : 0L;
            return dx * dx + dy * dy;
        }
    }

    /** A page as memory holds it. */
    private static final class Page {
        int level;
        int used;
        boolean changed;
        // One more than a page of the disk holds: it waits there until the page is split.
        final Box[] boxes = new Box[MOST_BELOW + 1];

        Page() {
            for (int slot = 0; slot < boxes.length; slot++) {
                boxes[slot] = new Box();
            }
        }

        void open(int newLevel) {
            level = newLevel;
            used = 0;
            changed = true;
        }

        void add(Box box) {
            if (used < boxes.length) {
                boxes[used].become(box);
                used++;
                changed = true;
            }
        }

        /** Fills the gap with the last box: slots before the dropped one stay as they are. */
        void drop(int slot) {
            if (slot >= 0 && slot < used) {
                used--;
                boxes[slot].become(boxes[used]);
                changed = true;
            }
        }

        /** The least rectangle around the slots whose bits are set. */
        void frame(int slots, Box into) {
            into.shrinkToNothing();
            for (int slot = 0; slot < used; slot++) {
                if ((slots >> slot & 1) == 1) {
                    into.widen(boxes[slot]);
                }
            }
        }

        int slotThatGrowsLeast(Box entry) {
            int best = 0;
            long leastGrowth = BEYOND_ALL;
            long leastArea = BEYOND_ALL;
            for (int slot = 0; slot < used; slot++) {
                long area = boxes[slot].area();
                long growth = boxes[slot].areaWith(entry) - area;
                if (growth < leastGrowth || growth == leastGrowth && area < leastArea) {
                    best = slot;
                    leastGrowth = growth;
                    leastArea = area;
                }
            }
            return best;
        }

        int bestPartner(int slot) {
            int best = slot;
            long leastArea = BEYOND_ALL;
            for (int other = 0; other < used; other++) {
                long area = boxes[other].areaWith(boxes[slot]);
                if (other != slot && area < leastArea) {
                    best = other;
                    leastArea = area;
                }
            }
            return best;
        }

        void writeTo(int[] row) {
            row[0] = level;
            row[1] = used;
            for (int slot = 0; slot < used && slot < MOST_BELOW; slot++) {
                int at = ROW_HEAD + slot * BOX_WIDTH;
                row[at] = boxes[slot].x1;
                row[at + 1] = boxes[slot].y1;
                row[at + 2] = boxes[slot].x2;
                row[at + 3] = boxes[slot].y2;
                row[at + 4] = boxes[slot].below;
            }
        }

        void readFrom(int[] row) {
            level = row[0];
            used = Math.max(0, Math.min(row[1], MOST_BELOW));
            changed = false;
            for (int slot = 0; slot < used; slot++) {
                int at = ROW_HEAD + slot * BOX_WIDTH;
                boxes[slot].assign(row[at], row[at + 1], row[at + 2], row[at + 3], row[at + 4]);
            }
        }
    }

    /** What outlives a loss of power: the places of the pages, and the log. */
    private static final class Disk {
        final int[][] places = new int[PAGES][ROW_WIDTH];
        private final int[][] log = new int[PAGES][ROW_WIDTH];
        private final int[] loggedPage = new int[PAGES];
        private int logged;
        private boolean marked;

        Disk() {
            places[HEADER][0] = FIRST_ROOT;
            places[FIRST_ROOT][0] = LOWEST;
        }

        /** Takes the steps up to the cut; answers whether the power lasted through all of them. */
        boolean keep(Tree tree, int cut) {
            if (cut == CUT_AT_ONCE) {
                return false;
            }
            int changes = tree.changedPages();
            writeLog(tree, cut == CUT_IN_LOG ? changes / 2 : changes);
            if (cut == CUT_IN_LOG || cut == CUT_BEFORE_MARK) {
                return false;
            }
            marked = true;
            if (cut == CUT_BEHIND_MARK) {
                return false;
            }
            writePlaces(cut == CUT_BEHIND_FIRST_PAGE ? 1 : logged);
            if (cut == CUT_BEHIND_FIRST_PAGE || cut == CUT_BEHIND_LAST_PAGE) {
                return false;
            }
            emptyLog();
            return true;
        }

        void recover() {
            if (marked) {
                writePlaces(logged);
            }
            emptyLog();
        }

        private void writeLog(Tree tree, int most) {
            for (int number = 0; number < PAGES && logged < most; number++) {
                if (tree.isChanged(number)) {
                    tree.writePage(number, log[logged]);
                    loggedPage[logged] = number;
                    logged++;
                }
            }
        }

        private void writePlaces(int most) {
            for (int line = 0; line < logged && line < most; line++) {
                System.arraycopy(log[line], 0, places[loggedPage[line]], 0, ROW_WIDTH);
            }
        }

        private void emptyLog() {
            logged = 0;
            marked = false;
        }
    }

    /** The tree in memory, while the store is up; its header page has the root and the size. */
    private static final class Tree {
        int root;
        int entries;
        private boolean headerChanged;
        // No page is kept at the header's number: an empty one there answers wrong numbers.
        private final Page[] pages = new Page[PAGES];
        // The way from the root to a lowest page: its pages, and the slot that was taken in each.
        private final int[] trail = new int[HIGHEST];
        private final int[] turns = new int[HIGHEST];
        private final Box frame = new Box();
        private final Box rest = new Box();

        Tree() {
            for (int number = 0; number < PAGES; number++) {
                pages[number] = new Page();
            }
            pages[FIRST_ROOT].level = LOWEST;
            root = FIRST_ROOT;
        }

        Page at(int number) {
            return pages[number > HEADER && number < PAGES ? number : HEADER];
        }

        void plant(Box entry) {
            int depth = descend(entry);
            at(trail[depth]).add(entry);
            writeHeader(root, entries + 1);
            climb(depth);
        }

        /** Takes one such entry out; false, and nothing is changed, when there is none. */
        boolean uproot(Box entry) {
            if (!seek(this, entry, root, 0)) {
                return false;
            }
            int depth = lowestDepth();
            at(trail[depth]).drop(turns[depth]);
            writeHeader(root, entries - 1);
            climb(depth);
            return true;
        }

        boolean isWhole() {
            int top = at(root).level;
            return top >= LOWEST && top <= HIGHEST && entriesBelow(this, root, top) == entries;
        }

        int changedPages() {
            int changes = 0;
            for (int number = 0; number < PAGES; number++) {
                changes += isChanged(number) ? 1 : 0;
            }
            return changes;
        }

        boolean isChanged(int number) {
            return number == HEADER ? headerChanged : at(number).changed;
        }

        void markUnchanged() {
            headerChanged = false;
            for (int number = 0; number < PAGES; number++) {
                pages[number].changed = false;
            }
        }

        void writePage(int number, int[] row) {
            if (number == HEADER) {
                row[0] = root;
                row[1] = entries;
            } else {
                at(number).writeTo(row);
            }
        }

        void readFrom(Disk disk) {
            root = disk.places[HEADER][0];
            entries = disk.places[HEADER][1];
            headerChanged = false;
            for (int number = HEADER + 1; number < PAGES; number++) {
                pages[number].readFrom(disk.places[number]);
            }
        }

        void forget() {
            root = HEADER;
            entries = 0;
            for (int number = 0; number < PAGES; number++) {
                pages[number].open(FREE);
            }
            markUnchanged();
        }

        private void writeHeader(int newRoot, int newEntries) {
            root = newRoot;
            entries = newEntries;
            headerChanged = true;
        }

        private int lowestDepth() {
            return Math.max(0, Math.min(at(root).level - LOWEST, HIGHEST - 1));
        }

        private int descend(Box entry) {
            int lowest = lowestDepth();
            trail[0] = root;
            for (int depth = 0; depth < lowest; depth++) {
                Page page = at(trail[depth]);
                turns[depth] = page.slotThatGrowsLeast(entry);
                trail[depth + 1] = page.boxes[turns[depth]].below;
            }
            return lowest;
        }

        private static boolean seek(Tree tree, Box entry, int number, int depth) {
            if (depth >= HIGHEST) {
                return false;
            }
            Page page = tree.at(number);
            tree.trail[depth] = number;
            for (int slot = 0; slot < page.used; slot++) {
                Box box = page.boxes[slot];
                tree.turns[depth] = slot;
                if (page.level == LOWEST ? box.isSame(entry)
                        : box.holds(entry) && seek(tree, entry, box.below, depth + 1)) {
                    return true;
                }
            }
            return false;
        }

        /** Puts right, from below, what a change at the end of the trail has put wrong. */
        private void climb(int depth) {
            for (int above = depth - 1; above >= 0; above--) {
                mend(at(trail[above]), turns[above]);
            }
            Page top = at(root);
            if (top.used > MOST_BELOW) {
                int number = openPage(top.level + 1);
                hang(at(number), root);
                mend(at(number), 0);
                writeHeader(number, entries);
            } else if (top.level > LOWEST && top.used == 1) {
                writeHeader(top.boxes[0].below, entries);
                top.open(FREE);
            }
        }

        private void mend(Page parent, int slot) {
            tellFrame(parent, slot);
            int kept = slot;
            if (at(parent.boxes[slot].below).used < LEAST_BELOW) {
                int partner = parent.bestPartner(slot);
                kept = Math.min(slot, partner);
                merge(parent, kept, Math.max(slot, partner));
            }
            Page child = at(parent.boxes[kept].below);
            if (child.used > MOST_BELOW) {
                int number = openPage(child.level);
                moveOut(child, bestDivision(child), at(number));
                hang(parent, number);
            }
            tellFrame(parent, kept);
        }

        private void tellFrame(Page parent, int slot) {
            Box told = parent.boxes[slot];
            frame.below = told.below;
            at(told.below).frame(ALL_SLOTS, frame);
            if (!told.isSame(frame)) {
                told.become(frame);
                parent.changed = true;
            }
        }

        private void hang(Page parent, int number) {
            frame.below = number;
            at(number).frame(ALL_SLOTS, frame);
            parent.add(frame);
        }

        /** The page that is kept may have one too many below it then. */
        private void merge(Page parent, int kept, int gone) {
            if (kept == gone) {
                return;
            }
            Page filled = at(parent.boxes[kept].below);
            Page emptied = at(parent.boxes[gone].below);
            for (int slot = 0; slot < emptied.used; slot++) {
                filled.add(emptied.boxes[slot]);
            }
            emptied.open(FREE);
            // The later slot is dropped, so that the earlier one stays where it is.
            parent.drop(gone);
        }

        private void moveOut(Page from, int slots, Page to) {
            for (int slot = from.used - 1; slot >= 0; slot--) {
                if ((slots >> slot & 1) == 1) {
                    to.add(from.boxes[slot]);
                    from.drop(slot);
                }
            }
        }

        /** The slots to move out so that both pages cover least; the last slot always stays. */
        private int bestDivision(Page page) {
            int best = 3;
            long leastArea = BEYOND_ALL;
            long leastRim = BEYOND_ALL;
            for (int slots = 1; slots < 1 << MOST_BELOW; slots++) {
                int moved = Integer.bitCount(slots);
                if (moved < LEAST_BELOW || page.used - moved < LEAST_BELOW) {
                    continue;
                }
                page.frame(slots, frame);
                page.frame(~slots, rest);
                long area = frame.area() + rest.area();
                long rim = frame.rim() + rest.rim();
                if (area < leastArea || area == leastArea && rim < leastRim) {
                    best = slots;
                    leastArea = area;
                    leastRim = rim;
                }
            }
            return best;
        }

        /** A free page is always there: PAGES says why. The header's number tells of none. */
        private int openPage(int level) {
            for (int number = HEADER + 1; number < PAGES; number++) {
                if (pages[number].level == FREE) {
                    pages[number].open(level);
                    return number;
                }
            }
            return HEADER;
        }

        /** How many entries are below a page; -1 when something there is not as it must be. */
        private static int entriesBelow(Tree tree, int number, int level) {
            Page page = tree.at(number);
            if (level < LOWEST || page.level != level || page.used > MOST_BELOW
                    || number != tree.root && page.used < LEAST_BELOW) {
                return -1;
            }
            if (level == LOWEST) {
                return page.used;
            }
            int sum = 0;
            for (int slot = 0; slot < page.used; slot++) {
                Box told = page.boxes[slot];
                tree.frame.below = told.below;
                tree.at(told.below).frame(ALL_SLOTS, tree.frame);
                int below = told.isSame(tree.frame) ? entriesBelow(tree, told.below, level - 1) : -1;
                if (below < 0) {
                    return -1;
                }
                sum += below;
            }
            return sum;
        }
    }

    /** The latest search: what it found, and the pages into which it looked. */
    private static final class Search {
        // In their order, the first hits of them; copies, so that no change of a page reaches them.
        final Box[] found = new Box[MOST_ENTRIES];
        int hits;
        final Box closest = new Box();
        long least;
        private final int[] waiting = new int[PAGES];
        private final long[] squares = new long[PAGES];
        private int queued;
        private final int[] looked = new int[PAGES];
        private int looks;
        private final Box frame = new Box();

        Search() {
            for (int hit = 0; hit < MOST_ENTRIES; hit++) {
                found[hit] = new Box();
            }
        }

        /** Finds the entries that meet a window. */
        void gather(Tree tree, Box window) {
            hits = 0;
            begin(tree.root);
            for (int round = 0; round < PAGES && queued > 0; round++) {
                Page page = lookInto(tree, queued - 1);
                for (int slot = 0; slot < page.used; slot++) {
                    Box box = page.boxes[slot];
                    if (!box.meets(window)) {
                        continue;
                    }
                    if (page.level == LOWEST) {
                        keepInOrder(box);
                    } else {
                        await(box.below, 0L);
                    }
                }
            }
        }

        /** Finds the entry nearest to a point, the nearest page first: no look is in vain. */
        void approach(Tree tree, int x, int y) {
            least = BEYOND_ALL;
            begin(tree.root);
            for (int round = 0; round < PAGES && queued > 0; round++) {
                int next = nearestWaiting();
                if (squares[next] > least) {
                    return;
                }
                Page page = lookInto(tree, next);
                for (int slot = 0; slot < page.used; slot++) {
                    Box box = page.boxes[slot];
                    long square = box.squareFrom(x, y);
                    if (page.level == LOWEST) {
                        keepCloser(box, square);
                    } else {
                        await(box.below, square);
                    }
                }
            }
        }

        int hitsInside(Box window) {
            int inside = 0;
            for (int hit = 0; hit < hits; hit++) {
                inside += window.holds(found[hit]) ? 1 : 0;
            }
            return inside;
        }

        boolean lookedOnlyWhereMet(Tree tree, Box window) {
            for (int look = 0; look < looks; look++) {
                tree.at(looked[look]).frame(ALL_SLOTS, frame);
                if (looked[look] != tree.root && !frame.meets(window)) {
                    return false;
                }
            }
            return true;
        }

        boolean lookedNoFarther(Tree tree, int x, int y) {
            for (int look = 0; look < looks; look++) {
                tree.at(looked[look]).frame(ALL_SLOTS, frame);
                if (looked[look] != tree.root && frame.squareFrom(x, y) > least) {
                    return false;
                }
            }
            return true;
        }

        private void begin(int root) {
            queued = 0;
            looks = 0;
            await(root, 0L);
        }

        private void await(int number, long square) {
            if (queued < PAGES) {
                waiting[queued] = number;
                squares[queued] = square;
                queued++;
            }
        }

        private Page lookInto(Tree tree, int place) {
            int number = waiting[place];
            queued--;
            waiting[place] = waiting[queued];
            squares[place] = squares[queued];
            looked[looks] = number;
            looks++;
            return tree.at(number);
        }

        private int nearestWaiting() {
            int best = 0;
            for (int place = 1; place < queued; place++) {
                if (squares[place] < squares[best]) {
                    best = place;
                }
            }
            return best;
        }

        private void keepInOrder(Box entry) {
            if (hits >= MOST_ENTRIES) {
                return;
            }
            int place = hits;
            while (place > 0 && entry.precedes(found[place - 1])) {
                found[place].become(found[place - 1]);
                place--;
            }
            found[place].become(entry);
            hits++;
        }

        private void keepCloser(Box entry, long square) {
            if (square < least || square == least && entry.precedes(closest)) {
                closest.become(entry);
                least = square;
            }
        }
    }
}
