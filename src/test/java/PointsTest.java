/** Promises 1 to 5: a new object, addPoint, removePoint, setPoint, point. */
public final class PointsTest {
    private static final int MIN = Integer.MIN_VALUE, MAX = Integer.MAX_VALUE;

    public static void main(String[] args) {
        newObject();
        addPointAnswers();
        addPointRanges();
        addPointOrderOfErrors();
        addPointTakesPlaces();
        removePointMovesNumbers();
        removePointFreesPlaces();
        removePointRanges();
        setPointAnswers();
        setPointHides();
        setPointRanges();
        pointProperties();
        Due.end();
    }

    private static void newObject() {
        LabelPlacer x = new LabelPlacer();
        int[] due = {0, 0, 0, 0, 0, 0, 0, 0, 60, 40, 0, 0, 0};
        for (int what = 0; what < due.length; what++) {
            Due.is("new: count(" + what + ")", x.count(what), due[what]);
        }
        Due.is("new: point(0, 0)", x.point(0, 0), LabelPlacer.BAD);
        Due.is("new: leader(0, 0)", x.leader(0, 0), LabelPlacer.NONE);
        Due.is("new: clear()", x.clear(), 0);
        Due.is("new: run()", x.run(), -2000);
        LabelPlacer other = new LabelPlacer();
        x.addPoint(1, 1, 1, 1, 1, 1);
        x.type('a');
        Due.is("objects share no points", other.count(0), 0);
        Due.is("objects share no text", other.count(11), 0);
    }

    private static void addPointAnswers() {
        LabelPlacer x = new LabelPlacer();
        Due.is("first addPoint", x.addPoint(0, 0, 1, 1, 1, 1), 0);
        Due.is("second addPoint", x.addPoint(199, 199, 20, 6, 9, 255), 1);
        Due.is("in its row", x.addPoint(1, 0, 1, 1, 1, 1), 2);
        Due.is("in its column", x.addPoint(0, 1, 1, 1, 1, 1), 3);
        Due.is("no label at first", x.point(0, 7), LabelPlacer.NONE);
        Due.is("outside the window too", x.point(1, 6), 0);
    }

    private static void addPointRanges() {
        int[] least = {0, 0, 1, 1, 1, 1};
        int[] greatest = {199, 199, 20, 6, 9, 255};
        for (int i = 0; i < least.length; i++) {
            int[] wrong = {least[i] - 1, greatest[i] + 1, MIN, MAX};
            for (int value : wrong) {
                LabelPlacer x = new LabelPlacer();
                Due.is("addPoint, argument " + i + " = " + value, addWith(x, i, value), LabelPlacer.BAD);
                Due.is("nothing was added", x.count(0), 0);
            }
            for (int value : new int[] {least[i], greatest[i]}) {
                LabelPlacer x = new LabelPlacer();
                Due.is("addPoint, argument " + i + " = " + value, addWith(x, i, value), 0);
                Due.is("point(0, " + i + ")", x.point(0, i), value);
            }
        }
    }

    private static int addWith(LabelPlacer x, int argument, int value) {
        int[] a = {10, 11, 3, 2, 5, 7};
        a[argument] = value;
        return x.addPoint(a[0], a[1], a[2], a[3], a[4], a[5]);
    }

    private static void addPointOrderOfErrors() {
        LabelPlacer x = new LabelPlacer();
        for (int i = 0; i < 20; i++) {
            Due.is("addPoint number " + i, x.addPoint(i, 100, 1, 1, 1, 255), i);
        }
        Due.is("BAD before STATE and FULL", x.addPoint(0, 100, 0, 1, 1, 255), LabelPlacer.BAD);
        Due.is("STATE before FULL", x.addPoint(0, 100, 1, 1, 1, 255), LabelPlacer.STATE);
        Due.is("FULL", x.addPoint(0, 101, 1, 1, 1, 255), LabelPlacer.FULL);
        Due.is("still 20", x.count(0), 20);
        Due.is("removePoint(19)", x.removePoint(19), 19);
        Due.is("room again", x.addPoint(0, 101, 1, 1, 1, 255), 19);
    }

    private static void addPointTakesPlaces() {
        LabelPlacer x = new LabelPlacer();
        x.addPoint(10, 10, 4, 2, 3, 255);
        Due.is("show(0, 0)", x.show(0, 0), LabelPlacer.NONE);
        x.addPoint(20, 20, 1, 1, 1, 255);
        Due.is("a far point leaves the label", x.point(0, 7), 0);
        x.addPoint(15, 12, 1, 1, 1, 255);
        Due.is("a point beside it too", x.point(0, 7), 0);
        x.addPoint(14, 12, 1, 1, 1, 255);
        Due.is("a point in its last cell takes it", x.point(0, 7), LabelPlacer.NONE);
        Due.is("it is no place", x.place(0, 0, 0), 0);
        Due.is("the new one has no label", x.point(3, 7), LabelPlacer.NONE);
    }

    private static void removePointMovesNumbers() {
        LabelPlacer x = new LabelPlacer();
        x.addPoint(10, 10, 4, 2, 3, 255);
        x.addPoint(30, 10, 5, 3, 4, 254);
        x.addPoint(10, 30, 6, 4, 5, 253);
        x.show(0, 0);
        x.show(1, 1);
        x.show(2, 2);
        Due.is("removePoint(1)", x.removePoint(1), 2);
        Due.is("the one before stays", x.point(0, 0), 10);
        Due.is("its label too", x.point(0, 7), 0);
        int[] due = {10, 30, 6, 4, 5, 253, 1, 2};
        for (int what = 0; what < due.length; what++) {
            Due.is("the one after: point(1, " + what + ")", x.point(1, what), due[what]);
        }
        Due.is("point(2, 0)", x.point(2, 0), LabelPlacer.BAD);
        Due.is("a new one has no label", x.addPoint(50, 30, 1, 1, 1, 255), 2);
        Due.is("point(2, 7)", x.point(2, 7), LabelPlacer.NONE);
        Due.is("places come back", x.removePoint(2), 2);
        Due.is("removePoint(1) again", x.removePoint(1), 1);
        Due.is("removePoint(0)", x.removePoint(0), 0);
        Due.is("no labels are left", x.count(4), 0);
    }

    private static void removePointFreesPlaces() {
        LabelPlacer x = new LabelPlacer();
        x.addPoint(12, 11, 1, 1, 9, 255);
        x.addPoint(10, 10, 4, 2, 3, 1);
        x.addPoint(120, 10, 4, 2, 4, 255);
        Due.is("a point in its label", x.point(1, 8), 0);
        Due.is("removePoint(0)", x.removePoint(0), 2);
        Due.is("its place comes back", x.point(0, 8), 1);
        Due.is("places follow the numbers", x.place(1, 0, 1), 121);
        Due.is("what is gone has no places", x.count(2), 1);
        Due.is("nor can it push", x.count(12), 1);
        Due.is("nor get a label", x.fill(), 1);
        Due.is("labels follow the numbers", x.labelAt(11, 11), 0);
        Due.is("the sum of priorities", x.count(5), 3);
        x.removePoint(0);
        Due.is("no label is left", x.labelAt(11, 11), LabelPlacer.NONE);
        Due.is("the greatest sum", x.greatest(), 0);
        Due.is("no leader", x.leaders(), 0);
    }

    private static void removePointRanges() {
        LabelPlacer x = new LabelPlacer();
        Due.is("no point", x.removePoint(0), LabelPlacer.BAD);
        x.addPoint(10, 10, 4, 2, 3, 255);
        for (int p : new int[] {-1, 1, 20, MIN, MAX}) {
            Due.is("removePoint(" + p + ")", x.removePoint(p), LabelPlacer.BAD);
        }
        Due.is("it is there still", x.count(0), 1);
    }

    private static void setPointAnswers() {
        LabelPlacer x = new LabelPlacer();
        x.addPoint(10, 10, 4, 2, 3, 255);
        int[] before = {0, 0, 4, 2, 3, 255};
        int[] after = {0, 0, 7, 5, 8, 129};
        for (int what = 2; what <= 5; what++) {
            Due.is("setPoint(0, " + what + ")", x.setPoint(0, what, after[what]), before[what]);
            Due.is("point(0, " + what + ")", x.point(0, what), after[what]);
        }
        Due.is("places follow", x.place(0, 1, 0), 0);
        Due.is("left follows", x.place(0, 1, 1), 3);
        Due.is("bottom follows", x.place(0, 7, 2), 5);
        Due.is("two sides are left", x.point(0, 8), 2);
    }

    private static void setPointHides() {
        LabelPlacer x = new LabelPlacer();
        x.addPoint(10, 10, 4, 1, 3, 255);
        x.addPoint(16, 10, 4, 1, 9, 255);
        x.show(0, 0);
        x.show(1, 6);
        Due.is("left of the other", x.place(1, 6, 1), 15);
        Due.is("as wide as before", x.setPoint(0, 2, 4), 4);
        Due.is("stays", x.point(0, 7), 0);
        x.setPoint(0, 2, 5);
        Due.is("its own label is hidden if it clashes", x.point(0, 7), LabelPlacer.NONE);
        Due.is("the other one is not", x.point(1, 7), 6);
        x.setPoint(0, 2, 4);
        Due.is("it does not come back", x.point(0, 7), LabelPlacer.NONE);
        x.show(0, 0);
        x.setPoint(0, 4, 1);
        Due.is("a priority hides nothing", x.point(0, 7), 0);
        x.setPoint(0, 5, 254);
        Due.is("a side that is not in the set", x.point(0, 7), LabelPlacer.NONE);
        x.show(0, 7);
        x.setPoint(0, 5, 128);
        Due.is("a side that stays in the set", x.point(0, 7), 7);
        x.show(0, -1);
        x.setPoint(0, 5, 255);
        x.show(0, 3);
        x.setPoint(0, 2, 11);
        Due.is("a label that leaves the window", x.point(0, 7), LabelPlacer.NONE);
    }

    private static void setPointRanges() {
        LabelPlacer x = new LabelPlacer();
        x.addPoint(10, 10, 4, 2, 3, 255);
        int[] greatest = {199, 199, 20, 6, 9, 255};
        for (int what = 2; what <= 5; what++) {
            int before = x.point(0, what);
            for (int value : new int[] {0, -1, greatest[what] + 1, MIN, MAX}) {
                Due.is("setPoint(0, " + what + ", " + value + ")", x.setPoint(0, what, value), LabelPlacer.BAD);
            }
            Due.is("unchanged", x.point(0, what), before);
            Due.is("the greatest", x.setPoint(0, what, greatest[what]), before);
            Due.is("the least", x.setPoint(0, what, 1), greatest[what]);
        }
        for (int what : new int[] {-1, 0, 1, 6, 7, 8, MIN, MAX}) {
            Due.is("setPoint(0, " + what + ", 1)", x.setPoint(0, what, 1), LabelPlacer.BAD);
        }
        for (int p : new int[] {-1, 1, 20, MIN, MAX}) {
            Due.is("setPoint(" + p + ", 2, 1)", x.setPoint(p, 2, 1), LabelPlacer.BAD);
        }
    }

    private static void pointProperties() {
        LabelPlacer x = new LabelPlacer();
        x.addPoint(59, 39, 4, 2, 3, 255);
        x.addPoint(60, 39, 4, 2, 3, 255);
        x.addPoint(59, 40, 4, 2, 3, 255);
        int[] due = {59, 39, 4, 2, 3, 255, 1, LabelPlacer.NONE, 1};
        for (int what = 0; what < due.length; what++) {
            Due.is("point(0, " + what + ")", x.point(0, what), due[what]);
        }
        Due.is("right of the window", x.point(1, 6), 0);
        Due.is("without places", x.point(1, 8), 0);
        Due.is("above the window", x.point(2, 6), 0);
        x.show(0, 3);
        Due.is("its side", x.point(0, 7), 3);
        for (int what : new int[] {-1, 9, MIN, MAX}) {
            Due.is("point(0, " + what + ")", x.point(0, what), LabelPlacer.BAD);
        }
        for (int p : new int[] {-1, 3, 20, MIN, MAX}) {
            Due.is("point(" + p + ", 0)", x.point(p, 0), LabelPlacer.BAD);
        }
    }
}
