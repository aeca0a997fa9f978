/** The boundary cases of promises 8 to 10, sentence by sentence: place, clash, labelAt. */
public final class PlaceEdgesTest {
    private static final int NONE = LabelPlacer.NONE, BAD = LabelPlacer.BAD, STATE = LabelPlacer.STATE;
    private static final int MIN = Integer.MIN_VALUE, MAX = Integer.MAX_VALUE;

    public static void main(String[] args) {
        placeSides();
        placeProperties();
        placeOfWrongPoints();
        placeIsOrIsNot();
        cornersWithoutPlace();
        clashesOfPlaces();
        clashesOfMany();
        clashesWithLabels();
        clashesOfNoPlace();
        clashSides();
        clashOfWrongPoints();
        clashOfOnePoint();
        clashOfNoPlace();
        clashOfLabelsThatAreNotShown();
        labelAtCells();
        labelAtEndsOfTheMap();
        labelAtWrongCells();
        labelAtNothing();
        Due.end();
    }

    private static LabelPlacer one() {
        LabelPlacer x = new LabelPlacer();
        x.addPoint(30, 20, 4, 2, 3, 255);
        return x;
    }

    /** Promise 8: "side: 0 to 7" */
    private static void placeSides() {
        LabelPlacer x = one();
        for (int what = 0; what <= 4; what++) {
            for (int side : new int[] {MIN, -2, -1, 8, 9, 255, MAX}) {
                Due.is("place(0, " + side + ", " + what + ")", x.place(0, side, what), BAD);
            }
        }
        Due.is("side 0", x.place(0, 0, 1), 31);
        Due.is("side 7", x.place(0, 7, 1), 29);
    }

    /** Promise 8: "what: 0 ... 4" */
    private static void placeProperties() {
        LabelPlacer x = one();
        for (int what : new int[] {MIN, -2, -1, 5, 6, MAX}) {
            for (int side = 0; side < 8; side++) {
                Due.is("place(0, " + side + ", " + what + ")", x.place(0, side, what), BAD);
            }
        }
        int[] due = {1, 31, 21, 0, 0};
        for (int what = 0; what <= 4; what++) {
            Due.is("place(0, 0, " + what + ")", x.place(0, 0, what), due[what]);
        }
    }

    /** Promise 8: "Returns the property; BAD." */
    private static void placeOfWrongPoints() {
        LabelPlacer x = Scene.full();
        for (int p : new int[] {MIN, -1, 20, 21, MAX}) {
            for (int what = 0; what <= 4; what++) {
                Due.is("place(" + p + ", 0, " + what + ")", x.place(p, 0, what), BAD);
            }
        }
        Due.is("place(19, 7, 1)", x.place(19, 7, 1), 26);
        Due.is("place(0, 0, 1)", x.place(0, 0, 1), 21);
        x.removePoint(19);
        Due.is("place(19, 7, 1) then", x.place(19, 7, 1), BAD);
    }

    /** Promise 8: "0: 1 if it is a place, otherwise 0" */
    private static void placeIsOrIsNot() {
        LabelPlacer x = one();
        for (int side = 0; side < 8; side++) {
            Due.is("side " + side, x.place(0, side, 0), 1);
        }
        x.setPoint(0, 5, 8);
        for (int side = 0; side < 8; side++) {
            Due.is("side " + side + " without its set", x.place(0, side, 0), side == 3 ? 1 : 0);
        }
        x.setWindow(31, 0, 60, 40);
        Due.is("not visible", x.place(0, 3, 0), 0);
    }

    /** Promise 8: "1 and 2: left and bottom of the label there (also if it is no place)" */
    private static void cornersWithoutPlace() {
        LabelPlacer x = new LabelPlacer();
        x.addPoint(0, 0, 20, 6, 1, 1);
        x.addPoint(199, 199, 20, 6, 1, 1);
        int[] left = {1, -20, 1, -20, 1, -20, -9, -9};
        int[] bottom = {1, 1, -6, -6, -2, -2, 1, -6};
        for (int side = 0; side < 8; side++) {
            Due.is("place(0, " + side + ", 1)", x.place(0, side, 1), left[side]);
            Due.is("place(0, " + side + ", 2)", x.place(0, side, 2), bottom[side]);
            Due.is("place(1, " + side + ", 1)", x.place(1, side, 1), 199 + left[side]);
            Due.is("place(1, " + side + ", 2)", x.place(1, side, 2), 199 + bottom[side]);
            Due.is("no place", x.place(0, side, 0) + x.place(1, side, 0), side == 0 ? 1 : 0);
        }
    }

    /** Promise 8: "3: the number of places with which it clashes" */
    private static void clashesOfPlaces() {
        LabelPlacer x = new LabelPlacer();
        x.addPoint(30, 20, 3, 1, 5, 1);
        Due.is("alone", x.place(0, 0, 3), 0);
        x.addPoint(34, 20, 3, 1, 5, 2);
        // Row 21: columns 31 to 33 for both.
        Due.is("with one", x.place(0, 0, 3), 1);
        x.setPoint(1, 5, 2 + 64);
        Due.is("with two of one point", x.place(0, 0, 3), 2);
        x.addPoint(36, 20, 3, 1, 5, 2 + 64);
        Due.is("one of the third covers its last column", x.place(0, 0, 3), 3);
        x.setWindow(0, 0, 60, 21);
        Due.is("no place any more", x.place(0, 0, 3), 0);
        x.setWindow(31, 0, 60, 40);
        Due.is("places of points that are not visible do not count", x.place(1, 1, 3), 1);
    }

    /** As many as there can be: each of 20 points with each of its places counts. */
    private static void clashesOfMany() {
        LabelPlacer x = new LabelPlacer();
        for (int i = 0; i < 20; i++) {
            x.addPoint(20 + i, 20, 20, 1, 5, 64);
        }
        // Each label above covers ten columns at its left and ten at its right, so that all cover a common column.
        for (int p = 0; p < 20; p++) {
            Due.is("place(" + p + ", 6, 3)", x.place(p, 6, 3), 19);
        }
        Due.is("pairs", x.count(3), 190);
    }

    /** Promise 8: "4: the number of labels that are shown with which it clashes" */
    private static void clashesWithLabels() {
        LabelPlacer x = new LabelPlacer();
        x.addPoint(30, 20, 2, 1, 5, 255);
        x.addPoint(36, 20, 2, 1, 5, 255);
        x.addPoint(33, 20, 4, 1, 5, 64);
        // Row 21: columns 31 and 32, 34 and 35, and 32 to 35.
        Due.is("none is shown", x.place(2, 6, 4), 0);
        x.show(0, 0);
        Due.is("one is shown", x.place(2, 6, 4), 1);
        x.show(1, 1);
        Due.is("two are shown", x.place(2, 6, 4), 2);
        Due.is("its own label does not count", x.place(0, 0, 4), 0);
        x.show(1, 0);
        Due.is("one is shown elsewhere", x.place(2, 6, 4), 1);
        x.hideAll();
        Due.is("none is shown again", x.place(2, 6, 4), 0);
        x.show(2, 6);
        Due.is("seen from the other", x.place(0, 0, 4), 1);
        Due.is("where it does not clash", x.place(0, 1, 4), 0);
    }

    /** Promise 8: "3 and 4: 0 if it is no place" */
    private static void clashesOfNoPlace() {
        LabelPlacer x = new LabelPlacer();
        x.addPoint(30, 20, 3, 1, 5, 2);
        x.addPoint(34, 20, 3, 1, 5, 2);
        x.show(1, 1);
        // On side 0, which is not in its set, point 0 would cover the columns of the label.
        Due.is("place(0, 0, 0)", x.place(0, 0, 0), 0);
        Due.is("place(0, 0, 3)", x.place(0, 0, 3), 0);
        Due.is("place(0, 0, 4)", x.place(0, 0, 4), 0);
        x.setPoint(0, 5, 1);
        Due.is("place(0, 0, 3) then", x.place(0, 0, 3), 1);
        Due.is("place(0, 0, 4) then", x.place(0, 0, 4), 1);
    }

    /** Promise 9: "side: a side of it", "its: a side of this one" */
    private static void clashSides() {
        LabelPlacer x = Scene.apart(2, 5);
        for (int side : new int[] {MIN, -2, -1, 8, 9, MAX}) {
            Due.is("clash(0, " + side + ", 1, 0)", x.clash(0, side, 1, 0), BAD);
            Due.is("clash(0, 0, 1, " + side + ")", x.clash(0, 0, 1, side), BAD);
            Due.is("clash(0, " + side + ", 1, " + side + ")", x.clash(0, side, 1, side), BAD);
        }
        for (int side = 0; side < 8; side++) {
            Due.is("clash(0, " + side + ", 1, 0)", x.clash(0, side, 1, 0), 0);
            Due.is("clash(0, 0, 1, " + side + ")", x.clash(0, 0, 1, side), 0);
        }
    }

    /** Promise 9: "point: a point", "other: another point" */
    private static void clashOfWrongPoints() {
        LabelPlacer x = Scene.apart(20, 5);
        for (int p : new int[] {MIN, -1, 20, 21, MAX}) {
            Due.is("clash(" + p + ", 0, 1, 0)", x.clash(p, 0, 1, 0), BAD);
            Due.is("clash(0, 0, " + p + ", 0)", x.clash(0, 0, p, 0), BAD);
            Due.is("clash(" + p + ", 0, " + p + ", 0)", x.clash(p, 0, p, 0), BAD);
        }
        Due.is("clash(0, 0, 19, 7)", x.clash(0, 0, 19, 7), 0);
        Due.is("clash(19, 7, 0, 0)", x.clash(19, 7, 0, 0), 0);
    }

    /** Promise 9: "BAD, also if both points are the same" */
    private static void clashOfOnePoint() {
        LabelPlacer x = Scene.apart(20, 5);
        for (int p = 0; p < 20; p++) {
            Due.is("the same place of point " + p, x.clash(p, 0, p, 0), BAD);
            Due.is("two places of point " + p, x.clash(p, 0, p, 4), BAD);
        }
    }

    /** Promise 9: "STATE if one of them is no place" */
    private static void clashOfNoPlace() {
        LabelPlacer x = new LabelPlacer();
        x.addPoint(30, 20, 4, 2, 3, 1);
        x.addPoint(30, 30, 4, 2, 3, 1);
        x.addPoint(90, 30, 4, 2, 3, 1);
        Due.is("both are", x.clash(0, 0, 1, 0), 0);
        Due.is("the first is none", x.clash(0, 1, 1, 0), STATE);
        Due.is("the second is none", x.clash(0, 0, 1, 1), STATE);
        Due.is("both are none", x.clash(0, 1, 1, 1), STATE);
        Due.is("the second is not visible", x.clash(0, 0, 2, 0), STATE);
        Due.is("the first is not visible", x.clash(2, 0, 0, 0), STATE);
        x.addPoint(34, 32, 1, 1, 1, 1);
        Due.is("the second is taken by a point", x.clash(0, 0, 1, 0), STATE);
    }

    /** Promise 9: "Returns 1 if they do, otherwise 0": of places, whatever is shown. */
    private static void clashOfLabelsThatAreNotShown() {
        LabelPlacer x = new LabelPlacer();
        x.addPoint(30, 20, 4, 1, 3, 255);
        x.addPoint(35, 20, 4, 1, 3, 255);
        // Row 21: columns 31 to 34 for both.
        Due.is("nothing is shown", x.clash(0, 0, 1, 1), 1);
        x.show(0, 0);
        Due.is("one is shown", x.clash(0, 0, 1, 1), 1);
        x.show(1, 0);
        Due.is("both are shown, elsewhere", x.clash(0, 0, 1, 1), 1);
        Due.is("places beside", x.clash(0, 1, 1, 0), 0);
    }

    /** Promise 10: "Tells what the label that is shown on a cell belongs to." */
    private static void labelAtCells() {
        LabelPlacer x = Scene.apart(20, 5);
        x.fill();
        for (int p : new int[] {0, 7, 19}) {
            int left = x.place(p, 0, 1);
            int bottom = x.place(p, 0, 2);
            for (int dx = -1; dx <= 4; dx++) {
                for (int dy = -1; dy <= 2; dy++) {
                    boolean covered = dx >= 0 && dx <= 3 && dy >= 0 && dy <= 1;
                    Due.is("labelAt() of point " + p + " and " + dx + ", " + dy, x.labelAt(left + dx, bottom + dy), covered ? p : NONE);
                }
            }
        }
    }

    private static void labelAtEndsOfTheMap() {
        LabelPlacer x = new LabelPlacer();
        x.setWindow(0, 0, 10, 10);
        x.addPoint(1, 1, 1, 1, 1, 8);
        x.fill();
        Due.is("the first cell", x.labelAt(0, 0), 0);
        LabelPlacer y = new LabelPlacer();
        y.setWindow(190, 190, 10, 10);
        y.addPoint(198, 198, 1, 1, 1, 1);
        y.fill();
        Due.is("the last cell", y.labelAt(199, 199), 0);
    }

    /** Promise 10: "BAD if the cell is not on the map" */
    private static void labelAtWrongCells() {
        LabelPlacer x = new LabelPlacer();
        for (int c : new int[] {MIN, -1, 200, MAX}) {
            Due.is("labelAt(" + c + ", 0)", x.labelAt(c, 0), BAD);
            Due.is("labelAt(199, " + c + ")", x.labelAt(199, c), BAD);
            Due.is("labelAt(" + c + ", " + c + ")", x.labelAt(c, c), BAD);
        }
    }

    /** Promise 10: "NONE if there is no label" */
    private static void labelAtNothing() {
        LabelPlacer x = one();
        Due.is("a place without a label", x.labelAt(31, 21), NONE);
        Due.is("the cell of a point", x.labelAt(30, 20), NONE);
        for (int c : new int[] {0, 199}) {
            Due.is("labelAt(" + c + ", 0)", x.labelAt(c, 0), NONE);
            Due.is("labelAt(" + c + ", 199)", x.labelAt(c, 199), NONE);
        }
        x.show(0, 0);
        Due.is("a label", x.labelAt(31, 21), 0);
        x.show(0, 1);
        Due.is("where it was", x.labelAt(31, 21), NONE);
        x.hideAll();
        Due.is("where it was hidden", x.labelAt(29, 21), NONE);
    }
}
