/** Promises 8 to 10: place, clash, labelAt. */
public final class PlacesTest {
    private static final int MIN = Integer.MIN_VALUE, MAX = Integer.MAX_VALUE;

    public static void main(String[] args) {
        cornersOfEachSide();
        cornersWithoutPlace();
        edgesOfTheWindow();
        pointsTakePlaces();
        placeCounts();
        placeRanges();
        clashAnswers();
        clashErrors();
        labelAtAnswers();
        Due.end();
    }

    private static void cornersOfEachSide() {
        LabelPlacer x = new LabelPlacer();
        x.addPoint(30, 20, 4, 2, 3, 255);
        x.addPoint(30, 21, 5, 3, 3, 255);
        int[] leftEven = {31, 26, 31, 26, 31, 26, 29, 29};
        int[] bottomEven = {21, 21, 18, 18, 20, 20, 21, 18};
        int[] leftOdd = {31, 25, 31, 25, 31, 25, 28, 28};
        int[] bottomOdd = {22, 22, 18, 18, 20, 20, 22, 18};
        for (int side = 0; side < 8; side++) {
            Due.is("place(0, " + side + ", 1)", x.place(0, side, 1), leftEven[side]);
            Due.is("place(0, " + side + ", 2)", x.place(0, side, 2), bottomEven[side]);
            Due.is("place(1, " + side + ", 1)", x.place(1, side, 1), leftOdd[side]);
            Due.is("place(1, " + side + ", 2)", x.place(1, side, 2), bottomOdd[side]);
        }
        Due.is("its label above would cover the other point", x.place(0, 6, 0), 0);
        Due.is("the other one's below too", x.place(1, 7, 0), 0);
        Due.is("beside it is room", x.place(0, 4, 0), 1);
    }

    private static void cornersWithoutPlace() {
        LabelPlacer x = new LabelPlacer();
        x.addPoint(0, 0, 20, 6, 3, 1);
        x.addPoint(199, 199, 20, 6, 3, 1);
        Due.is("a side that is not in the set", x.place(0, 1, 0), 0);
        Due.is("left of the map", x.place(0, 1, 1), -20);
        Due.is("below the map", x.place(0, 3, 2), -6);
        Due.is("half left of the map", x.place(0, 6, 1), -9);
        Due.is("half below the map", x.place(0, 4, 2), -2);
        Due.is("a point that is not visible", x.place(1, 0, 0), 0);
        Due.is("right of the map", x.place(1, 0, 1), 200);
        Due.is("above the map", x.place(1, 0, 2), 200);
    }

    private static void edgesOfTheWindow() {
        LabelPlacer x = new LabelPlacer();
        x.setWindow(20, 20, 20, 20);
        x.addPoint(24, 22, 4, 2, 3, 255);
        x.addPoint(35, 37, 4, 2, 3, 255);
        Due.is("just inside at the left and below", x.place(0, 3, 0), 1);
        Due.is("just inside at the right and above", x.place(1, 0, 0), 1);
        x.setWindow(21, 20, 20, 20);
        Due.is("cut at the left", x.place(0, 3, 0), 0);
        x.setWindow(20, 21, 20, 20);
        Due.is("cut below", x.place(0, 3, 0), 0);
        x.setWindow(20, 20, 19, 20);
        Due.is("cut at the right", x.place(1, 0, 0), 0);
        x.setWindow(20, 20, 20, 19);
        Due.is("cut above", x.place(1, 0, 0), 0);
        x.setWindow(25, 20, 20, 20);
        Due.is("the point is not visible, its label would be inside", x.place(0, 0, 0), 0);
    }

    private static void pointsTakePlaces() {
        int[][] corners = {{31, 21}, {34, 21}, {31, 22}, {34, 22}, {32, 21}};
        for (int[] c : corners) {
            LabelPlacer x = new LabelPlacer();
            x.addPoint(30, 20, 4, 2, 3, 255);
            x.addPoint(c[0], c[1], 1, 1, 1, 1);
            Due.is("a point at " + c[0] + ", " + c[1], x.place(0, 0, 0), 0);
        }
        int[][] beside = {{30, 21}, {35, 21}, {31, 20}, {31, 23}, {35, 22}, {34, 23}};
        for (int[] c : beside) {
            LabelPlacer x = new LabelPlacer();
            x.addPoint(30, 20, 4, 2, 3, 255);
            x.addPoint(c[0], c[1], 1, 1, 1, 1);
            Due.is("a point at " + c[0] + ", " + c[1], x.place(0, 0, 0), 1);
        }
    }

    private static void placeCounts() {
        LabelPlacer x = new LabelPlacer();
        x.addPoint(20, 20, 3, 1, 5, 255);
        x.addPoint(22, 20, 3, 1, 5, 3);
        x.addPoint(24, 20, 3, 1, 5, 1);
        // Row 21: point 0 on 0: 21..23, on 1: 17..19, on 6: 19..21; point 1 on 0: 23..25, on 1: 19..21; point 2: 25..27.
        Due.is("place(0, 0, 3)", x.place(0, 0, 3), 2);
        Due.is("place(0, 1, 3)", x.place(0, 1, 3), 1);
        Due.is("place(0, 6, 3)", x.place(0, 6, 3), 1);
        Due.is("place(1, 0, 3)", x.place(1, 0, 3), 2);
        Due.is("place(1, 1, 3)", x.place(1, 1, 3), 3);
        Due.is("place(2, 0, 3)", x.place(2, 0, 3), 1);
        Due.is("its own other places do not count", x.place(0, 7, 3), 0);
        Due.is("pairs", x.count(3), 5);
        Due.is("none are shown", x.place(0, 0, 4), 0);
        x.show(1, 1);
        Due.is("place(0, 0, 4)", x.place(0, 0, 4), 1);
        Due.is("its own label does not count", x.place(1, 1, 4), 0);
        Due.is("nor on another side", x.place(1, 0, 4), 0);
        x.show(1, 0);
        Due.is("place(0, 0, 4) then", x.place(0, 0, 4), 1);
        Due.is("place(2, 0, 4)", x.place(2, 0, 4), 1);
        Due.is("place(0, 1, 4)", x.place(0, 1, 4), 0);
        Due.is("no place clashes with nothing", x.place(2, 1, 3), 0);
        Due.is("nor with labels", x.place(2, 1, 4), 0);
        Due.is("it would cover the label", x.place(2, 1, 1), 21);
    }

    private static void placeRanges() {
        LabelPlacer x = new LabelPlacer();
        Due.is("no point", x.place(0, 0, 0), LabelPlacer.BAD);
        x.addPoint(20, 20, 3, 1, 5, 255);
        for (int p : new int[] {-1, 1, 20, MIN, MAX}) {
            Due.is("place(" + p + ", 0, 0)", x.place(p, 0, 0), LabelPlacer.BAD);
        }
        for (int side : new int[] {-1, 8, MIN, MAX}) {
            Due.is("place(0, " + side + ", 1)", x.place(0, side, 1), LabelPlacer.BAD);
        }
        for (int what : new int[] {-1, 5, MIN, MAX}) {
            Due.is("place(0, 0, " + what + ")", x.place(0, 0, what), LabelPlacer.BAD);
        }
    }

    private static void clashAnswers() {
        // The label of point 0 covers (31..34, 21..22), that of point 1 is 3 wide and 1 high.
        int[][] common = {{34, 22}, {29, 22}, {34, 21}, {29, 21}, {31, 22}};
        int[][] apart = {{35, 22}, {28, 22}, {34, 23}, {34, 20}, {31, 20}, {35, 23}};
        for (int[] c : common) {
            Due.is("clash at " + c[0] + ", " + c[1], clashOfTwo(c[0], c[1]), 1);
        }
        for (int[] c : apart) {
            Due.is("clash at " + c[0] + ", " + c[1], clashOfTwo(c[0], c[1]), 0);
        }
    }

    private static int clashOfTwo(int left, int bottom) {
        LabelPlacer x = new LabelPlacer();
        x.addPoint(30, 20, 4, 2, 3, 1);
        // Point 1 stands where it does not lie in the label of point 0 itself.
        int its = bottom > 20 ? 7 : 6;
        x.addPoint(left + 1, its == 7 ? bottom + 1 : bottom - 1, 3, 1, 3, 1 << its);
        Due.is("it goes both ways", x.clash(1, its, 0, 0), x.clash(0, 0, 1, its));
        return x.clash(0, 0, 1, its);
    }

    private static void clashErrors() {
        LabelPlacer x = new LabelPlacer();
        x.addPoint(30, 20, 4, 2, 3, 1);
        x.addPoint(40, 20, 4, 2, 3, 1);
        Due.is("both places", x.clash(0, 0, 1, 0), 0);
        Due.is("the first is none", x.clash(0, 1, 1, 0), LabelPlacer.STATE);
        Due.is("the second is none", x.clash(0, 0, 1, 1), LabelPlacer.STATE);
        Due.is("the same point", x.clash(0, 0, 0, 0), LabelPlacer.BAD);
        Due.is("the same point without places", x.clash(1, 1, 1, 2), LabelPlacer.BAD);
        for (int p : new int[] {-1, 2, 20, MIN, MAX}) {
            Due.is("clash(" + p + ", 0, 1, 0)", x.clash(p, 0, 1, 0), LabelPlacer.BAD);
            Due.is("clash(0, 0, " + p + ", 0)", x.clash(0, 0, p, 0), LabelPlacer.BAD);
            Due.is("BAD before STATE", x.clash(0, 5, p, 0), LabelPlacer.BAD);
        }
        for (int side : new int[] {-1, 8, MIN, MAX}) {
            Due.is("clash(0, " + side + ", 1, 0)", x.clash(0, side, 1, 0), LabelPlacer.BAD);
            Due.is("clash(0, 0, 1, " + side + ")", x.clash(0, 0, 1, side), LabelPlacer.BAD);
        }
    }

    private static void labelAtAnswers() {
        LabelPlacer x = new LabelPlacer();
        x.addPoint(30, 20, 4, 2, 3, 255);
        x.addPoint(40, 20, 4, 2, 3, 255);
        Due.is("nothing is shown", x.labelAt(31, 21), LabelPlacer.NONE);
        x.show(0, 0);
        x.show(1, 1);
        for (int cx = 28; cx < 44; cx++) {
            for (int cy = 18; cy < 26; cy++) {
                int due = LabelPlacer.NONE;
                if (cy == 21 || cy == 22) {
                    due = cx >= 31 && cx <= 34 ? 0 : cx >= 36 && cx <= 39 ? 1 : LabelPlacer.NONE;
                }
                Due.is("labelAt(" + cx + ", " + cy + ")", x.labelAt(cx, cy), due);
            }
        }
        Due.is("a corner of the map", x.labelAt(199, 199), LabelPlacer.NONE);
        Due.is("the other one", x.labelAt(0, 0), LabelPlacer.NONE);
        for (int c : new int[] {-1, 200, MIN, MAX}) {
            Due.is("labelAt(" + c + ", 0)", x.labelAt(c, 0), LabelPlacer.BAD);
            Due.is("labelAt(0, " + c + ")", x.labelAt(0, c), LabelPlacer.BAD);
        }
    }
}
