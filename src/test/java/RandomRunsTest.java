import java.util.Random;

/** All promises: runs of 512 calls of many kinds, each answer held against the plain list's. */
public final class RandomRunsTest {
    private static final int[] SPREADS = {0, 3, 12, 60, 1000, 1000000, 1000000000};

    public static void main(String[] args) {
        for (int seed = 0; seed < 1260; seed++) {
            run(seed);
        }
        Checks.end();
    }

    private static void run(int seed) {
        Random random = new Random(seed);
        BoxedPages store = new BoxedPages();
        Model model = new Model();
        int spread = SPREADS[seed % SPREADS.length];
        int cuts = seed / SPREADS.length % 3 * 4;
        int[] box = new int[4];
        int start = Checks.asked();
        // The longest turn of this loop makes 10 calls, each looked at: what is behind the 512th is free.
        for (int call = 0; Checks.asked() - start <= 502; call = Checks.asked() - start) {
            // Growing and shrinking by turns brings all heights of the tree.
            boolean growing = call / 90 % 2 == 0;
            int kind = random.nextInt(100);
            if (kind < 40) {
                change(store, model, random, spread, growing);
            } else if (kind < 40 + cuts) {
                power(store, model, random);
            } else {
                draw(random, spread, box);
                ask(store, model, random, box);
            }
            String where = "seed " + seed + ", call " + call + ": ";
            Checks.due(where + "up()", store.up(), model.up());
            if (model.up() && !Inside.isTree(store)) {
                Checks.due(where + "the tree within", false, true);
            }
            if (!model.up() && random.nextInt(3) == 0) {
                Checks.due(where + "start()", store.start(), model.start());
            }
        }
    }

    private static int coordinate(Random random, int spread) {
        if (random.nextInt(150) == 0) {
            return random.nextBoolean() ? 1000000001 : Integer.MIN_VALUE;
        }
        return random.nextInt(2 * spread + 1) - spread;
    }

    private static void draw(Random random, int spread, int[] box) {
        box[0] = coordinate(random, spread);
        box[1] = coordinate(random, spread);
        int limit = spread / (1 + random.nextInt(8));
        box[2] = Math.min(spread, box[0] + random.nextInt(limit + 1));
        box[3] = Math.min(spread, box[1] + random.nextInt(limit + 1));
    }

    private static void change(BoxedPages s, Model m, Random random, int spread, boolean growing) {
        int[] b = new int[4];
        draw(random, spread, b);
        int name = random.nextInt(40) == 0 ? 1000 - 1001 * random.nextInt(2) : random.nextInt(5);
        if (random.nextInt(5) > 0 == growing) {
            Checks.due("insert", s.insert(name, b[0], b[1], b[2], b[3]), m.insert(name, b[0], b[1], b[2], b[3]));
        } else if (random.nextInt(3) == 0) {
            Checks.due("take", s.take(b[0], b[1], b[2], b[3]), m.take(b[0], b[1], b[2], b[3]));
        } else {
            if (!m.entries.isEmpty() && random.nextInt(10) > 0) {
                int[] e = m.entries.get(random.nextInt(m.entries.size()));
                name = e[0];
                System.arraycopy(e, 1, b, 0, 4);
            }
            Checks.due("delete", s.delete(name, b[0], b[1], b[2], b[3]), m.delete(name, b[0], b[1], b[2], b[3]));
        }
    }

    private static void power(BoxedPages s, Model m, Random random) {
        int kind = random.nextInt(6);
        if (kind == 0) {
            Checks.due("stop", s.stop(), m.stop());
        } else if (kind == 1) {
            Checks.due("start", s.start(), m.start());
        } else {
            int which = random.nextInt(9) - 2;
            Checks.due("cut", s.cut(which), m.cut(which));
        }
    }

    private static void ask(BoxedPages s, Model m, Random random, int[] b) {
        switch (random.nextInt(9)) {
            case 0 -> Checks.due("size", s.size(), m.size());
            case 1 -> Checks.due("count", s.count(b[0], b[1], b[2], b[3]), m.count(b[0], b[1], b[2], b[3]));
            case 2 -> Checks.due("within", s.within(b[0], b[1], b[2], b[3]), m.within(b[0], b[1], b[2], b[3]));
            case 3 -> {
                for (int k = -1; k < 6; k++) {
                    Checks.due("pick", s.pick(b[0], b[1], b[2], b[3], k), m.pick(b[0], b[1], b[2], b[3], k));
                }
            }
            case 4 -> Checks.due("distance", s.distance(b[0], b[1]), m.distance(b[0], b[1]));
            case 5 -> Checks.due("nearest", s.nearest(b[0], b[1]), m.nearest(b[0], b[1]));
            case 6 -> {
                for (int side = -1; side < 5; side++) {
                    Checks.due("around", s.around(side), m.around(side));
                }
            }
            case 7 -> Checks.due("sound", s.sound(), m.sound());
            default -> Checks.due("frugal", s.frugal(), m.frugal());
        }
        Checks.due("frugal", s.frugal(), m.frugal());
    }
}
