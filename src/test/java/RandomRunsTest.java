import java.util.Random;

/** All promises: long runs of calls, the same each time, on LabelPlacer and on the naive map beside it. */
public final class RandomRunsTest {
    private static final int RUNS = 500;
    /** The document speaks of 512 calls of an object; one step makes fewer than 100. */
    private static final int CALLS = 512 - 100;
    private static final int[] STRANGE = {-3, -2, -1, 0, 1, 5, 8, 9, 13, 20, 21, 60, 100, 127, 128, 200, 256,
        Integer.MIN_VALUE, Integer.MAX_VALUE};
    private static final String[] BEGINNINGS = {"point 12 9 3 2 4", "point", "window", "window 0 0 30 30", "pan 1 -2",
        "pan-3 2", "pan", "label", "improve", "hide", "pan - 1-2", "point1 22 3 4 5", "labe", "  hide  "};
    private static final String LETTERS = "   0123456789---ahZ:";

    private final Random random;
    private final int crowd;
    /** Whether the run is at the far ends of the map. */
    private final boolean far;
    private final LabelPlacer real = new LabelPlacer();
    private final NaiveMap naive = new NaiveMap();
    private int made = 0;

    private RandomRunsTest(int seed) {
        random = new Random(seed);
        crowd = seed % 3 == 0 ? 12 : seed % 3 == 1 ? 25 : 60;
        far = seed % 4 == 0;
    }

    public static void main(String[] args) {
        for (int seed = 1; seed <= RUNS && Due.wrongSoFar() < 20; seed++) {
            new RandomRunsTest(seed).goThrough(seed);
        }
        Due.end();
    }

    private void goThrough(int seed) {
        if (far) {
            setWindow("seed " + seed + ", at first: ");
        }
        for (int i = 0; made < CALLS && Due.wrongSoFar() < 20; i++) {
            String at = "seed " + seed + ", call " + i + ": ";
            oneCall(at);
            if (i % 10 == 9) {
                Due.is(at + "digest()", real().digest(), naive.digest());
                Due.holds(at + "shown labels are at places that do not clash", naive.isSound());
            }
        }
    }

    /** The object under test, for one call. */
    private LabelPlacer real() {
        made++;
        return real;
    }

    private int one(int least, int greatest) {
        return random.nextInt(80) == 0 ? STRANGE[random.nextInt(STRANGE.length)] : least + random.nextInt(greatest - least + 1);
    }

    private int aCoordinate() {
        int c = one(0, crowd);
        return far ? 199 - c : c;
    }

    private int aPoint() {
        return one(0, Math.max(0, real().count(0) - 1));
    }

    private int aSideSet() {
        return random.nextBoolean() ? 255 : one(1, 255);
    }

    private void oneCall(String at) {
        switch (random.nextInt(26)) {
            case 0: case 1: case 2:
                addPoint(at);
                break;
            case 3:
                if (random.nextInt(3) == 0) {
                    int p = aPoint();
                    Due.is(at + "removePoint", real().removePoint(p), naive.removePoint(p));
                }
                break;
            case 4: case 5:
                setPoint(at);
                break;
            case 6:
                setWindow(at);
                break;
            case 7: case 8:
                int dx = one(-4, 4);
                int dy = one(-4, 4);
                Due.is(at + "pan(" + dx + ", " + dy + ")", real().pan(dx, dy), naive.pan(dx, dy));
                break;
            case 9:
                Due.is(at + "fill()", real().fill(), naive.fill());
                break;
            case 10: case 11:
                Due.is(at + "improve()", real().improve(), naive.improve());
                break;
            case 12: case 13:
                Due.is(at + "push()", real().push(), naive.push());
                break;
            case 14: case 15: case 16: case 17:
                int p = aPoint();
                int side = one(-1, 7);
                Due.is(at + "show(" + p + ", " + side + ")", real().show(p, side), naive.show(p, side));
                break;
            case 18:
                if (random.nextInt(3) == 0) {
                    Due.is(at + "hideAll()", real().hideAll(), naive.hideAll());
                }
                break;
            case 19:
                // The naive search goes through everything, so it is not asked for the worst.
                if (real().count(2) <= 22) {
                    Due.is(at + "greatest()", real().greatest(), naive.greatest());
                }
                break;
            case 20: case 21:
                Due.is(at + "leaders()", real().leaders(), naive.leaders());
                break;
            case 22: case 23:
                text(at);
                break;
            default:
                question(at);
        }
    }

    private void addPoint(String at) {
        int[] a = {aCoordinate(), aCoordinate(), one(1, 6), one(1, 4), one(1, 9), aSideSet()};
        if (random.nextInt(10) == 0) {
            a[2] = one(1, 20);
            a[3] = one(1, 6);
        }
        Due.is(at + "addPoint", real().addPoint(a[0], a[1], a[2], a[3], a[4], a[5]),
                naive.addPoint(a[0], a[1], a[2], a[3], a[4], a[5]));
    }

    private void setPoint(String at) {
        int p = aPoint();
        int what = one(2, 5);
        int value = what == 2 ? one(1, 12) : what == 3 ? one(1, 6) : what == 4 ? one(1, 9) : aSideSet();
        Due.is(at + "setPoint(" + p + ", " + what + ", " + value + ")", real().setPoint(p, what, value),
                naive.setPoint(p, what, value));
    }

    private void setWindow(String at) {
        int[] a = {one(0, 8), one(0, 8), one(10, 10 + crowd), one(10, 10 + crowd)};
        if (far) {
            a[0] = 200 - a[2] - a[0];
            a[1] = 200 - a[3] - a[1];
        }
        Due.is(at + "setWindow", real().setWindow(a[0], a[1], a[2], a[3]), naive.setWindow(a[0], a[1], a[2], a[3]));
    }

    private void text(String at) {
        StringBuilder text = new StringBuilder(BEGINNINGS[random.nextInt(BEGINNINGS.length)]);
        int more = random.nextInt(3) == 0 ? 0 : random.nextInt(14);
        for (int i = 0; i < more; i++) {
            text.append(LETTERS.charAt(random.nextInt(LETTERS.length())));
        }
        if (random.nextInt(4) == 0) {
            text.insert(random.nextInt(text.length() + 1), (char) random.nextInt(128));
        }
        for (int i = 0; i < text.length(); i++) {
            int letter = text.charAt(i);
            Due.is(at + "type(" + letter + ")", real().type(letter), naive.type(letter));
        }
        String shownText = at + "run() of '" + text + "'";
        Due.is(shownText, real().run(), naive.run());
        if (random.nextInt(3) != 0) {
            Due.is(at + "clear()", real().clear(), naive.clear());
        }
    }

    private void question(String at) {
        int p = aPoint();
        int q = aPoint();
        int a = one(0, 8);
        int b = one(0, 8);
        int c = one(0, 5);
        Due.is(at + "point", real().point(p, a), naive.point(p, a));
        Due.is(at + "place", real().place(p, b, c), naive.place(p, b, c));
        Due.is(at + "clash", real().clash(p, a, q, b), naive.clash(p, a, q, b));
        Due.is(at + "leader", real().leader(q, c), naive.leader(q, c));
        int what = one(0, 12);
        Due.is(at + "count", real().count(what), naive.count(what));
        int type = one(-1, 128);
        Due.is(at + "type", real().type(type), naive.type(type));
        for (int i = 0; i < 8; i++) {
            int x = aCoordinate();
            int y = aCoordinate();
            Due.is(at + "labelAt(" + x + ", " + y + ")", real().labelAt(x, y), naive.labelAt(x, y));
        }
    }
}
