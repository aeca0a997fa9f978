/** The boundary cases of promises 1 to 5, sentence by sentence: a new object, addPoint, removePoint, setPoint, point. */
public final class PointEdgesTest {
    private static final int NONE = LabelPlacer.NONE, BAD = LabelPlacer.BAD, STATE = LabelPlacer.STATE,
            FULL = LabelPlacer.FULL;
    private static final int MIN = Integer.MIN_VALUE, MAX = Integer.MAX_VALUE;
    private static final int[] GREATEST = {199, 199, 20, 6, 9, 255};

    public static void main(String[] args) {
        newMapHasNoPoints();
        newMapHasNoText();
        newMapDoesNothing();
        addPointWithoutLabel();
        addPointToTheLast();
        addPointArguments();
        addPointIntoACell();
        addPointBeyondTwenty();
        removePointMovesNumbers();
        removePointOfTwenty();
        removePointLeavesMany();
        removePointOfWrongNumbers();
        setPointProperties();
        setPointValues();
        setPointRangesAreItsOwn();
        setPointPrevious();
        setPointOfWrongNumbers();
        pointProperties();
        pointSides();
        pointPlaces();
        pointOfWrongNumbers();
        Due.end();
    }

    /** Promise 1: "Creates a map without points" */
    private static void newMapHasNoPoints() {
        LabelPlacer x = new LabelPlacer();
        for (int what = 0; what <= 5; what++) {
            Due.is("count(" + what + ")", x.count(what), 0);
        }
        Due.is("count(10)", x.count(10), 0);
        Due.is("count(12)", x.count(12), 0);
        Due.is("point(0, 0)", x.point(0, 0), BAD);
        Due.is("setPoint(0, 2, 1)", x.setPoint(0, 2, 1), BAD);
        Due.is("removePoint(0)", x.removePoint(0), BAD);
        Due.is("place(0, 0, 1)", x.place(0, 0, 1), BAD);
        Due.is("clash(0, 0, 1, 0)", x.clash(0, 0, 1, 0), BAD);
        Due.is("show(0, 0)", x.show(0, 0), BAD);
        Due.is("labelAt(0, 0)", x.labelAt(0, 0), NONE);
        Due.is("leader(0, 0)", x.leader(0, 0), NONE);
        Due.is("the first gets number 0", x.addPoint(0, 0, 1, 1, 1, 1), 0);
    }

    /** Promise 1: "with an empty text" */
    private static void newMapHasNoText() {
        LabelPlacer x = new LabelPlacer();
        Due.is("count(11)", x.count(11), 0);
        Due.is("run()", x.run(), -2000);
        Due.is("clear()", x.clear(), 0);
        Due.is("type('a')", x.type('a'), 1);
    }

    /** All that can be done on an empty map is done, and comes to nothing. */
    private static void newMapDoesNothing() {
        LabelPlacer x = new LabelPlacer();
        long before = x.digest();
        Due.is("fill()", x.fill(), 0);
        Due.is("improve()", x.improve(), 0);
        Due.is("push()", x.push(), 0);
        Due.is("hideAll()", x.hideAll(), 0);
        Due.is("greatest()", x.greatest(), 0);
        Due.is("leaders()", x.leaders(), 0);
        Due.is("pan(0, 0)", x.pan(0, 0), 0);
        Due.is("setWindow(0, 0, 60, 40)", x.setWindow(0, 0, 60, 40), 0);
        Due.is("digest()", x.digest(), before);
    }

    /** Promise 2: "Adds a point without a label that is shown." */
    private static void addPointWithoutLabel() {
        LabelPlacer x = Scene.apart(2, 5);
        x.fill();
        Due.is("addPoint()", x.addPoint(50, 50, 1, 1, 9, 255), 2);
        Due.is("no label", x.point(2, 7), NONE);
        Due.is("two labels still", x.count(4), 2);
        x.show(2, 4);
        x.removePoint(2);
        Due.is("addPoint() with the number of one that had a label", x.addPoint(50, 50, 1, 1, 9, 255), 2);
        Due.is("has none", x.point(2, 7), NONE);
    }

    private static void addPointToTheLast() {
        LabelPlacer x = Scene.apart(20, 5);
        Due.is("fill()", x.fill(), 20);
        x.removePoint(19);
        Due.is("addPoint() after one of twenty was removed", x.addPoint(5, 95, 1, 1, 1, 255), 19);
        Due.is("has no label", x.point(19, 7), NONE);
        Due.is("labels", x.count(4), 19);
    }

    private static int addWith(LabelPlacer x, int argument, int value) {
        int[] a = {10, 11, 3, 2, 5, 7};
        a[argument] = value;
        return x.addPoint(a[0], a[1], a[2], a[3], a[4], a[5]);
    }

    /** Promise 2: the ranges of x, y, width, height, priority and sides; "Returns its number; BAD" */
    private static void addPointArguments() {
        int[] least = {0, 0, 1, 1, 1, 1};
        for (int i = 0; i < 6; i++) {
            int[] values = {MIN, -least[i] - 1, least[i] - 1, least[i], GREATEST[i], GREATEST[i] + 1, GREATEST[i] + 256, MAX};
            for (int value : values) {
                LabelPlacer x = new LabelPlacer();
                boolean right = value >= least[i] && value <= GREATEST[i];
                Due.is("addPoint() with " + value + " as argument " + i, addWith(x, i, value), right ? 0 : BAD);
                Due.is("points then", x.count(0), right ? 1 : 0);
                Due.is("its property", x.point(0, i), right ? value : BAD);
            }
        }
        LabelPlacer x = new LabelPlacer();
        Due.is("all the least", x.addPoint(0, 0, 1, 1, 1, 1), 0);
        Due.is("all the greatest", x.addPoint(199, 199, 20, 6, 9, 255), 1);
        Due.is("none right", x.addPoint(-1, 200, 0, 7, 10, 256), BAD);
    }

    /** Promise 2: "STATE if there is a point in this cell" */
    private static void addPointIntoACell() {
        LabelPlacer x = Scene.full();
        for (int p = 0; p < 20; p++) {
            Due.is("the cell of point " + p, x.addPoint(x.point(p, 0), x.point(p, 1), 1, 1, 1, 1), STATE);
        }
        LabelPlacer y = new LabelPlacer();
        y.addPoint(7, 8, 1, 1, 1, 1);
        Due.is("its column and row turned", y.addPoint(8, 7, 1, 1, 1, 1), 1);
        y.show(0, 0);
        Due.is("the cell of a label is no point's", y.addPoint(8, 9, 1, 1, 1, 1), 2);
    }

    /** Promise 2: "FULL if there are 20 points" */
    private static void addPointBeyondTwenty() {
        LabelPlacer x = Scene.apart(19, 5);
        Due.is("point 20 of 20", x.addPoint(5, 5, 1, 1, 1, 1), 19);
        Due.is("point 21", x.addPoint(6, 5, 1, 1, 1, 1), FULL);
        Due.is("point 21 on the other end", x.addPoint(199, 199, 20, 6, 9, 255), FULL);
        Due.is("points", x.count(0), 20);
    }

    /** Promise 3: "Removes a point; the numbers of those after it decrease by 1." */
    private static void removePointMovesNumbers() {
        for (int gone = 0; gone < 4; gone++) {
            LabelPlacer x = new LabelPlacer();
            for (int p = 0; p < 4; p++) {
                x.addPoint(10 + p, 20 + p, 3 + p, 2 + p, 4 + p, 5 + p);
            }
            Due.is("removePoint(" + gone + ")", x.removePoint(gone), 3);
            for (int p = 0; p < 3; p++) {
                int was = p < gone ? p : p + 1;
                int[] due = {10 + was, 20 + was, 3 + was, 2 + was, 4 + was, 5 + was};
                for (int what = 0; what < 6; what++) {
                    Due.is("point(" + p + ", " + what + ") without " + gone, x.point(p, what), due[what]);
                }
            }
            Due.is("point(3, 0)", x.point(3, 0), BAD);
        }
    }

    private static void removePointOfTwenty() {
        for (int gone : new int[] {0, 10, 19}) {
            LabelPlacer x = Scene.apart(20, 5);
            x.fill();
            Due.is("removePoint(" + gone + ") of 20", x.removePoint(gone), 19);
            Due.is("labels", x.count(4), 19);
            Due.is("the last is", x.point(18, 0), gone == 19 ? 70 : 90);
            Due.is("point 19 is none", x.removePoint(19), BAD);
        }
    }

    /** Promise 3: "Returns the number of points that are left" */
    private static void removePointLeavesMany() {
        LabelPlacer x = Scene.apart(20, 5);
        for (int left = 19; left >= 0; left--) {
            Due.is("removePoint(0)", x.removePoint(0), left);
            Due.is("count(0)", x.count(0), left);
        }
        Due.is("removePoint(0) of none", x.removePoint(0), BAD);
        Due.is("the next gets number 0", x.addPoint(5, 5, 1, 1, 1, 1), 0);
    }

    /** Promise 3: "BAD" */
    private static void removePointOfWrongNumbers() {
        LabelPlacer x = Scene.apart(3, 5);
        for (int p : new int[] {MIN, -1, 3, 4, 19, 20, MAX}) {
            Due.is("removePoint(" + p + ")", x.removePoint(p), BAD);
        }
        Due.is("points", x.count(0), 3);
        Due.is("the last one", x.removePoint(2), 2);
    }

    /** Promise 4: "2: the width of its label; 3: the height; 4: its priority; 5: its set of sides" */
    private static void setPointProperties() {
        for (int what : new int[] {MIN, -1, 0, 1, 2, 3, 4, 5, 6, 7, 8, 9, MAX}) {
            LabelPlacer x = new LabelPlacer();
            x.addPoint(30, 20, 4, 3, 2, 7);
            int[] before = {30, 20, 4, 3, 2, 7};
            boolean right = what >= 2 && what <= 5;
            Due.is("setPoint(0, " + what + ", 1)", x.setPoint(0, what, 1), right ? before[what] : BAD);
            for (int other = 0; other < 6; other++) {
                Due.is("point(0, " + other + ") then", x.point(0, other), right && other == what ? 1 : before[other]);
            }
        }
    }

    /** Promise 4: "the new value, in the same range as for addPoint()" */
    private static void setPointValues() {
        for (int what = 2; what <= 5; what++) {
            for (int value : new int[] {MIN, -1, 0, 1, GREATEST[what], GREATEST[what] + 1, MAX}) {
                LabelPlacer x = new LabelPlacer();
                x.addPoint(30, 20, 2, 2, 2, 2);
                boolean right = value >= 1 && value <= GREATEST[what];
                Due.is("setPoint(0, " + what + ", " + value + ")", x.setPoint(0, what, value), right ? 2 : BAD);
                Due.is("point(0, " + what + ")", x.point(0, what), right ? value : 2);
            }
        }
    }

    /** The same: what is too great for one property is not for another. */
    private static void setPointRangesAreItsOwn() {
        int[] values = {7, 10, 21, 256};
        for (int value : values) {
            for (int what = 2; what <= 5; what++) {
                LabelPlacer x = new LabelPlacer();
                x.addPoint(30, 20, 2, 2, 2, 2);
                Due.is("setPoint(0, " + what + ", " + value + ")", x.setPoint(0, what, value), value <= GREATEST[what] ? 2 : BAD);
            }
        }
    }

    /** Promise 4: "Returns the previous value" */
    private static void setPointPrevious() {
        for (int what = 2; what <= 5; what++) {
            LabelPlacer x = new LabelPlacer();
            x.addPoint(30, 20, 3, 3, 3, 3);
            Due.is("the greatest", x.setPoint(0, what, GREATEST[what]), 3);
            Due.is("the same", x.setPoint(0, what, GREATEST[what]), GREATEST[what]);
            Due.is("the least", x.setPoint(0, what, 1), GREATEST[what]);
            Due.is("a wrong one", x.setPoint(0, what, 0), BAD);
            Due.is("the previous one is the last that was right", x.setPoint(0, what, 2), 1);
        }
    }

    /** Promise 4: "BAD" */
    private static void setPointOfWrongNumbers() {
        LabelPlacer x = Scene.full();
        for (int p : new int[] {MIN, -1, 20, MAX}) {
            Due.is("setPoint(" + p + ", 2, 1)", x.setPoint(p, 2, 1), BAD);
        }
        Due.is("setPoint(19, 2, 20)", x.setPoint(19, 2, 20), 6);
        Due.is("setPoint(0, 2, 20)", x.setPoint(0, 2, 20), 3);
    }

    /** Promise 5: "0: x; 1: y; ... 8: the number of its places" */
    private static void pointProperties() {
        LabelPlacer x = new LabelPlacer();
        x.addPoint(59, 39, 20, 6, 9, 255);
        x.addPoint(0, 0, 1, 1, 1, 1);
        int[][] due = {{59, 39, 20, 6, 9, 255, 1, NONE, 1}, {0, 0, 1, 1, 1, 1, 1, NONE, 1}};
        for (int p = 0; p < 2; p++) {
            for (int what = 0; what <= 8; what++) {
                Due.is("point(" + p + ", " + what + ")", x.point(p, what), due[p][what]);
            }
            Due.is("point(" + p + ", -1)", x.point(p, -1), BAD);
            Due.is("point(" + p + ", 9)", x.point(p, 9), BAD);
        }
    }

    /** Promise 5: "7: the side on which its label is shown (NONE without one)" */
    private static void pointSides() {
        LabelPlacer x = new LabelPlacer();
        x.addPoint(30, 20, 3, 2, 5, 255);
        for (int side = 0; side < 8; side++) {
            Due.is("without one", x.point(0, 7), NONE);
            x.show(0, side);
            Due.is("on side " + side, x.point(0, 7), side);
            x.show(0, NONE);
        }
    }

    /** Promise 5: "8: the number of its places", from none to eight. */
    private static void pointPlaces() {
        LabelPlacer x = new LabelPlacer();
        x.addPoint(30, 20, 3, 2, 5, 255);
        Due.is("all sides", x.point(0, 8), 8);
        for (int side = 0; side < 8; side++) {
            x.setPoint(0, 5, (2 << side) - 1);
            Due.is("the sides up to " + side, x.point(0, 8), side + 1);
        }
        x.setWindow(100, 100, 60, 40);
        Due.is("not visible", x.point(0, 8), 0);
    }

    /** Promise 5: "BAD" */
    private static void pointOfWrongNumbers() {
        LabelPlacer x = Scene.full();
        for (int wrong : new int[] {MIN, -1, 20, MAX}) {
            for (int what = 0; what <= 8; what++) {
                Due.is("point(" + wrong + ", " + what + ")", x.point(wrong, what), BAD);
            }
            Due.is("point(0, " + wrong + ")", x.point(0, wrong), BAD);
        }
        Due.is("point(19, 1)", x.point(19, 1), 16);
    }
}
