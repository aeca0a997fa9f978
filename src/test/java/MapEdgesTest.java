/** What the document's description says of the ends of the map, the points, the window, places and labels. */
public final class MapEdgesTest {
    private static final int NONE = LabelPlacer.NONE, BAD = LabelPlacer.BAD, STATE = LabelPlacer.STATE,
            FULL = LabelPlacer.FULL;
    /** Where the label of 5 times 3 cells begins on each side, seen from its point. */
    private static final int[] LEFT = {1, -5, 1, -5, 1, -5, -2, -2};
    private static final int[] BOTTOM = {1, 1, -3, -3, -1, -1, 1, -3};

    public static void main(String[] args) {
        mapEnds();
        atMostTwentyPoints();
        numbersFromZero();
        aCellOfItsOwn();
        sizesOfLabels();
        priorities();
        bitsOfSides();
        windowAtFirst();
        sizesOfTheWindow();
        cellsOfTheWindow();
        divisionsRoundDown();
        placesNeedTheirSide();
        placesEndWithTheWindow();
        placesEndWithTheMap();
        placesEndAtPoints();
        placesBesidePoints();
        clashOfOneCell();
        noClashOfOnePoint();
        noLabelAtFirst();
        labelsAreAlwaysAtPlaces();
        orderOfPoints();
        addPointTakesLabels();
        removePointTakesItsLabelAlone();
        setPointTakesLabels();
        setWindowTakesLabels();
        panTakesLabels();
        setPointHidesWhatClashes();
        Due.end();
    }

    /** "The map consists of cells with coordinates x and y from 0 to 199." */
    private static void mapEnds() {
        for (int c = -2; c <= 201; c++) {
            boolean onMap = c >= 0 && c <= 199;
            Due.is("addPoint() in column " + c, new LabelPlacer().addPoint(c, 5, 1, 1, 1, 1), onMap ? 0 : BAD);
            Due.is("addPoint() in row " + c, new LabelPlacer().addPoint(5, c, 1, 1, 1, 1), onMap ? 0 : BAD);
            Due.is("labelAt() in column " + c, new LabelPlacer().labelAt(c, 5), onMap ? NONE : BAD);
            Due.is("labelAt() in row " + c, new LabelPlacer().labelAt(5, c), onMap ? NONE : BAD);
        }
        LabelPlacer x = new LabelPlacer();
        Due.is("a window in the last cells", x.setWindow(190, 190, 10, 10), 0);
        Due.is("a point in the last cell", x.addPoint(199, 199, 1, 1, 1, 255), 0);
        Due.is("is visible", x.point(0, 6), 1);
    }

    /** "There are at most 20 points" */
    private static void atMostTwentyPoints() {
        LabelPlacer x = new LabelPlacer();
        for (int i = 0; i < 20; i++) {
            Due.is("point " + i, x.addPoint(i, i, 1, 1, 1, 1), i);
        }
        Due.is("one more", x.addPoint(20, 20, 1, 1, 1, 1), FULL);
        Due.is("twenty", x.count(0), 20);
        x.removePoint(7);
        Due.is("one in its stead", x.addPoint(20, 20, 1, 1, 1, 1), 19);
        Due.is("one more than that", x.addPoint(7, 7, 1, 1, 1, 1), FULL);
    }

    /** "numbered from 0" */
    private static void numbersFromZero() {
        LabelPlacer x = Scene.full();
        Due.is("below the first", x.point(-1, 0), BAD);
        Due.is("the first", x.point(0, 0), 20);
        Due.is("the last", x.point(19, 0), 28);
        Due.is("above the last", x.point(20, 0), BAD);
    }

    /** "each in a cell of its own" */
    private static void aCellOfItsOwn() {
        LabelPlacer x = new LabelPlacer();
        x.addPoint(0, 0, 1, 1, 1, 1);
        x.addPoint(199, 199, 1, 1, 1, 1);
        Due.is("the cell of the first", x.addPoint(0, 0, 20, 6, 9, 255), STATE);
        Due.is("the cell of the last, which is not visible", x.addPoint(199, 199, 20, 6, 9, 255), STATE);
        Due.is("right of it", x.addPoint(1, 0, 1, 1, 1, 1), 2);
        Due.is("above it", x.addPoint(0, 1, 1, 1, 1, 1), 3);
        Due.is("left of the last", x.addPoint(198, 199, 1, 1, 1, 1), 4);
        Due.is("below the last", x.addPoint(199, 198, 1, 1, 1, 1), 5);
        x.removePoint(0);
        Due.is("a cell that is left is free again", x.addPoint(0, 0, 1, 1, 1, 1), 5);
    }

    /** "with a label that is 1 to 20 cells wide and 1 to 6 cells high" */
    private static void sizesOfLabels() {
        for (int w = -1; w <= 22; w++) {
            Due.is("a width of " + w, new LabelPlacer().addPoint(5, 5, w, 1, 1, 1), w >= 1 && w <= 20 ? 0 : BAD);
        }
        for (int h = -1; h <= 22; h++) {
            Due.is("a height of " + h, new LabelPlacer().addPoint(5, 5, 1, h, 1, 1), h >= 1 && h <= 6 ? 0 : BAD);
        }
    }

    /** "a priority from 1 to 9" */
    private static void priorities() {
        for (int priority = -1; priority <= 11; priority++) {
            Due.is("a priority of " + priority, new LabelPlacer().addPoint(5, 5, 1, 1, priority, 1),
                    priority >= 1 && priority <= 9 ? 0 : BAD);
        }
    }

    /** "a set of sides, 1 to 255, on which the label may stand (bit s for side s)" */
    private static void bitsOfSides() {
        for (int sides = -1; sides <= 257; sides++) {
            LabelPlacer x = new LabelPlacer();
            boolean right = sides >= 1 && sides <= 255;
            Due.is("the set " + sides, x.addPoint(30, 20, 4, 2, 3, sides), right ? 0 : BAD);
            for (int side = 0; side < 8 && right; side++) {
                Due.is("side " + side + " of the set " + sides, x.place(0, side, 0), sides >> side & 1);
            }
        }
    }

    /** "its least x and y (at first 0 and 0) on, as many as its width and height tell (at first 60 and 40 ...)" */
    private static void windowAtFirst() {
        LabelPlacer x = new LabelPlacer();
        int[] due = {0, 0, 60, 40};
        for (int i = 0; i < 4; i++) {
            Due.is("count(" + (6 + i) + ")", x.count(6 + i), due[i]);
        }
        int[][] cells = {{0, 0, 1}, {59, 0, 1}, {0, 39, 1}, {59, 39, 1}, {60, 0, 0}, {0, 40, 0}, {60, 39, 0}, {59, 40, 0}};
        for (int[] c : cells) {
            int p = x.addPoint(c[0], c[1], 1, 1, 1, 1);
            Due.is("a point at " + c[0] + ", " + c[1] + " is visible", x.point(p, 6), c[2]);
        }
    }

    /** "from 10 to 100 each" */
    private static void sizesOfTheWindow() {
        for (int size = 8; size <= 102; size++) {
            boolean right = size >= 10 && size <= 100;
            LabelPlacer x = new LabelPlacer();
            Due.is("a window " + size + " wide", x.setWindow(0, 0, size, 50), right ? 0 : BAD);
            Due.is("count(8)", x.count(8), right ? size : 60);
            LabelPlacer y = new LabelPlacer();
            Due.is("a window " + size + " high", y.setWindow(0, 0, 50, size), right ? 0 : BAD);
            Due.is("count(9)", y.count(9), right ? size : 40);
        }
    }

    /** "A point is visible if its cell is in the window." */
    private static void cellsOfTheWindow() {
        for (int cx = 29; cx <= 41; cx++) {
            for (int cy = 69; cy <= 82; cy++) {
                LabelPlacer x = new LabelPlacer();
                x.setWindow(30, 70, 11, 12);
                x.addPoint(cx, cy, 1, 1, 1, 255);
                int due = cx >= 30 && cx <= 40 && cy >= 70 && cy <= 81 ? 1 : 0;
                Due.is("a point at " + cx + ", " + cy + " is visible", x.point(0, 6), due);
                Due.is("visible points with one at " + cx + ", " + cy, x.count(1), due);
            }
        }
    }

    /** "Divisions round down." */
    private static void divisionsRoundDown() {
        int[] halfOfWidth = {0, 0, 0, 1, 1, 2, 2, 3, 3, 4, 4, 5, 5, 6, 6, 7, 7, 8, 8, 9, 9};
        for (int w = 1; w <= 20; w++) {
            LabelPlacer x = new LabelPlacer();
            x.addPoint(0, 100, w, 1, 1, 255);
            int[] left = {1, -w, 1, -w, 1, -w, -halfOfWidth[w], -halfOfWidth[w]};
            for (int side = 0; side < 8; side++) {
                Due.is("left of " + w + " cells on side " + side, x.place(0, side, 1), left[side]);
            }
        }
        int[] halfOfHeight = {0, 0, 0, 1, 1, 2, 2};
        for (int h = 1; h <= 6; h++) {
            LabelPlacer x = new LabelPlacer();
            x.addPoint(100, 0, 1, h, 1, 255);
            int[] bottom = {1, 1, -h, -h, -halfOfHeight[h], -halfOfHeight[h], 1, -h};
            for (int side = 0; side < 8; side++) {
                Due.is("bottom of " + h + " cells on side " + side, x.place(0, side, 2), bottom[side]);
            }
        }
    }

    private static LabelPlacer onSide(int side) {
        LabelPlacer x = new LabelPlacer();
        x.setWindow(60, 60, 80, 80);
        x.addPoint(100, 100, 5, 3, 5, 1 << side);
        return x;
    }

    /** "A place is a visible point with a side from its set" */
    private static void placesNeedTheirSide() {
        for (int side = 0; side < 8; side++) {
            LabelPlacer x = onSide(side);
            for (int other = 0; other < 8; other++) {
                Due.is("side " + other + " of the set of side " + side, x.place(0, other, 0), other == side ? 1 : 0);
            }
            Due.is("places", x.point(0, 8), 1);
            x.setWindow(0, 0, 100, 100);
            Due.is("side " + side + " of a point that is not visible", x.place(0, side, 0), 0);
        }
    }

    /** "such that all cells that its label covers are in the window" (and the cell of the point, too). */
    private static void placesEndWithTheWindow() {
        for (int side = 0; side < 8; side++) {
            LabelPlacer x = onSide(side);
            int left = 100 + Math.min(0, LEFT[side]);
            int bottom = 100 + Math.min(0, BOTTOM[side]);
            int right = 100 + Math.max(0, LEFT[side] + 4);
            int top = 100 + Math.max(0, BOTTOM[side] + 2);
            String place = "side " + side + " in a window that ";
            x.setWindow(left, 60, 80, 80);
            Due.is(place + "begins with it", x.place(0, side, 0), 1);
            x.setWindow(left + 1, 60, 80, 80);
            Due.is(place + "begins behind it", x.place(0, side, 0), 0);
            x.setWindow(60, bottom, 80, 80);
            Due.is(place + "begins at its bottom", x.place(0, side, 0), 1);
            x.setWindow(60, bottom + 1, 80, 80);
            Due.is(place + "begins above its bottom", x.place(0, side, 0), 0);
            x.setWindow(60, 60, right - 59, 80);
            Due.is(place + "ends with it", x.place(0, side, 0), 1);
            x.setWindow(60, 60, right - 60, 80);
            Due.is(place + "ends before it", x.place(0, side, 0), 0);
            x.setWindow(60, 60, 80, top - 59);
            Due.is(place + "ends at its top", x.place(0, side, 0), 1);
            x.setWindow(60, 60, 80, top - 60);
            Due.is(place + "ends below its top", x.place(0, side, 0), 0);
        }
    }

    /** The same at the ends of the map: in its corners a label has place on the side that leads inward alone. */
    private static void placesEndWithTheMap() {
        int[][] corners = {{0, 0}, {199, 0}, {0, 199}, {199, 199}};
        for (int i = 0; i < 4; i++) {
            LabelPlacer x = new LabelPlacer();
            x.setWindow(corners[i][0] == 0 ? 0 : 100, corners[i][1] == 0 ? 0 : 100, 100, 100);
            x.addPoint(corners[i][0], corners[i][1], 3, 3, 5, 255);
            Due.is("corner " + i + ": visible", x.point(0, 6), 1);
            for (int side = 0; side < 8; side++) {
                Due.is("corner " + i + ": side " + side, x.place(0, side, 0), side == i ? 1 : 0);
            }
        }
    }

    /** "and none of them is the cell of a point" */
    private static void placesEndAtPoints() {
        for (int side = 0; side < 8; side++) {
            for (int i = 0; i < 15; i++) {
                LabelPlacer x = onSide(side);
                int cx = 100 + LEFT[side] + i % 5;
                int cy = 100 + BOTTOM[side] + i / 5;
                Due.is("addPoint()", x.addPoint(cx, cy, 1, 1, 1, 1), 1);
                Due.is("side " + side + " with a point at " + cx + ", " + cy, x.place(0, side, 0), 0);
                x.removePoint(1);
                Due.is("side " + side + " without it", x.place(0, side, 0), 1);
            }
        }
    }

    /** The cells around the label may be cells of points, that of its own point among them. */
    private static void placesBesidePoints() {
        for (int side = 0; side < 8; side++) {
            for (int dx = -1; dx <= 5; dx++) {
                for (int dy = -1; dy <= 3; dy++) {
                    boolean around = dx == -1 || dx == 5 || dy == -1 || dy == 3;
                    LabelPlacer x = onSide(side);
                    int cx = 100 + LEFT[side] + dx;
                    int cy = 100 + BOTTOM[side] + dy;
                    if (around && x.addPoint(cx, cy, 1, 1, 1, 1) != STATE) {
                        Due.is("side " + side + " beside a point at " + cx + ", " + cy, x.place(0, side, 0), 1);
                    }
                }
            }
        }
    }

    /** "Two places of different points clash if their labels cover a common cell." */
    private static void clashOfOneCell() {
        // Point 0 on side 0 covers columns 101 to 105 and rows 101 to 103; the other label is 2 cells wide and high.
        for (int left = 98; left <= 107; left++) {
            for (int bottom = 98; bottom <= 105; bottom++) {
                int compared = 0;
                for (int side = 0; side < 4; side++) {
                    compared += clashIsDue(left, bottom, side) ? 1 : 0;
                }
                Due.holds("some point has a label at " + left + ", " + bottom, compared > 0);
            }
        }
    }

    /** False if the other point would lie where a point may not lie here. */
    private static boolean clashIsDue(int left, int bottom, int side) {
        int px = side % 2 == 0 ? left - 1 : left + 2;
        int py = side < 2 ? bottom - 1 : bottom + 2;
        boolean inLabel = px >= 101 && px <= 105 && py >= 101 && py <= 103;
        if (inLabel || (px == 100 && py == 100)) {
            return false;
        }
        LabelPlacer x = onSide(0);
        x.addPoint(px, py, 2, 2, 5, 1 << side);
        boolean onPoint = left >= 99 && left <= 100 && bottom >= 99 && bottom <= 100;
        int common = left >= 100 && left <= 105 && bottom >= 100 && bottom <= 103 ? 1 : 0;
        String place = " a label at " + left + ", " + bottom + " on side " + side;
        Due.is("clash with" + place, x.clash(0, 0, 1, side), onPoint ? STATE : common);
        Due.is("clash of" + place, x.clash(1, side, 0, 0), onPoint ? STATE : common);
        Due.is("clashes of" + place, x.place(1, side, 3), onPoint ? 0 : common);
        Due.is("pairs with" + place, x.count(3), onPoint ? 0 : common);
        return true;
    }

    /** "of different points": a point has no clashes with itself, though its places cover common cells. */
    private static void noClashOfOnePoint() {
        LabelPlacer x = new LabelPlacer();
        x.addPoint(30, 20, 20, 6, 5, 255);
        Due.is("places", x.count(2), 8);
        Due.is("pairs", x.count(3), 0);
        x.show(0, 0);
        for (int side = 0; side < 8; side++) {
            Due.is("place(0, " + side + ", 3)", x.place(0, side, 3), 0);
            Due.is("place(0, " + side + ", 4)", x.place(0, side, 4), 0);
            Due.holds("its label can move to side " + side, x.show(0, side) >= 0);
        }
    }

    /** "Each point has a label that is shown on a side, or none (at first)." */
    private static void noLabelAtFirst() {
        LabelPlacer x = new LabelPlacer();
        x.addPoint(30, 20, 3, 1, 9, 255);
        Due.is("at first", x.point(0, 7), NONE);
        for (int side = 0; side < 8; side++) {
            x.show(0, side);
            Due.is("shown", x.point(0, 7), side);
            Due.is("one label", x.count(4), 1);
        }
    }

    /** "The labels that are shown are always at places that do not clash." */
    private static void labelsAreAlwaysAtPlaces() {
        LabelPlacer x = new LabelPlacer();
        for (int i = 0; i < 6; i++) {
            x.addPoint(20 + 2 * i, 20 + i % 3, 4 + i, 1 + i % 3, 1 + i, 255);
        }
        x.fill();
        labelsAreSound("fill()", x);
        x.setPoint(0, 2, 20);
        labelsAreSound("setPoint() of a width", x);
        x.setPoint(3, 3, 6);
        labelsAreSound("setPoint() of a height", x);
        x.improve();
        labelsAreSound("improve()", x);
        x.setPoint(2, 5, 1);
        labelsAreSound("setPoint() of the sides", x);
        x.push();
        labelsAreSound("push()", x);
        x.addPoint(25, 24, 1, 1, 9, 255);
        labelsAreSound("addPoint()", x);
        x.pan(15, 15);
        labelsAreSound("pan()", x);
        x.setWindow(20, 18, 12, 10);
        labelsAreSound("setWindow()", x);
        x.fill();
        x.removePoint(1);
        labelsAreSound("removePoint()", x);
        Due.holds("some are shown", x.count(4) > 0);
    }

    private static void labelsAreSound(String when, LabelPlacer x) {
        int shown = 0;
        for (int p = 0; p < x.count(0); p++) {
            int side = x.point(p, 7);
            if (side != NONE) {
                shown++;
                Due.is("after " + when + ": the label of " + p + " is at a place", x.place(p, side, 0), 1);
                Due.is("after " + when + ": the label of " + p + " clashes with", x.place(p, side, 4), 0);
            }
        }
        Due.is("after " + when + ": count(4)", x.count(4), shown);
    }

    /** "An order of points is by descending priorities, and by ascending numbers if these are equal." */
    private static void orderOfPoints() {
        for (int first = 1; first <= 9; first++) {
            for (int second = 1; second <= 9; second++) {
                LabelPlacer x = new LabelPlacer();
                x.addPoint(20, 20, 4, 1, first, 1);
                x.addPoint(22, 20, 4, 1, second, 1);
                x.fill();
                int due = second > first ? 1 : 0;
                Due.is("priorities " + first + " and " + second, x.point(due, 7), 0);
                Due.is("priorities " + first + " and " + second, x.point(1 - due, 7), NONE);
            }
        }
    }

    /** "each label that is shown, but is not at a place any more, disappears (a new point can take a place from a label)" */
    private static void addPointTakesLabels() {
        LabelPlacer x = onSide(0);
        x.addPoint(110, 100, 5, 3, 1, 8);
        x.show(0, 0);
        x.show(1, 3);
        // They cover columns 101 to 105 of rows 101 to 103, and columns 105 to 109 of rows 97 to 99.
        x.addPoint(106, 101, 1, 1, 9, 255);
        Due.is("beside the one", x.point(0, 7), 0);
        x.addPoint(105, 103, 1, 1, 9, 255);
        Due.is("in its last cell", x.point(0, 7), NONE);
        Due.is("the other one stays", x.point(1, 7), 3);
        x.removePoint(3);
        Due.is("it does not come back", x.point(0, 7), NONE);
        x.show(0, 0);
        Due.is("a refused one", x.addPoint(105, 103, 21, 1, 9, 255), BAD);
        Due.is("takes nothing", x.point(0, 7), 0);
    }

    /** The same of removePoint(): nobody else's place is lost by it. */
    private static void removePointTakesItsLabelAlone() {
        for (int gone = 0; gone < 3; gone++) {
            LabelPlacer x = Scene.apart(3, 5);
            for (int p = 0; p < 3; p++) {
                x.show(p, p + 2);
            }
            int left = x.place(gone, gone + 2, 1);
            int bottom = x.place(gone, gone + 2, 2);
            Due.is("its cell", x.labelAt(left, bottom), gone);
            x.removePoint(gone);
            Due.is("its cell then", x.labelAt(left, bottom), NONE);
            Due.is("labels without point " + gone, x.count(4), 2);
            Due.is("the first then", x.point(0, 7), gone == 0 ? 3 : 2);
            Due.is("the second then", x.point(1, 7), gone == 2 ? 3 : 4);
        }
    }

    /** The same of setPoint(): the label grows out of the window, over a point, or loses its side. */
    private static void setPointTakesLabels() {
        int[][] changes = {{2, 6, 7}, {3, 4, 5}};
        for (int[] c : changes) {
            LabelPlacer x = new LabelPlacer();
            x.setWindow(0, 0, 37, 25);
            x.addPoint(30, 20, 4, 2, 3, 255);
            x.show(0, 0);
            x.setPoint(0, c[0], c[1]);
            Due.is("as far as the window goes", x.point(0, 7), 0);
            x.setPoint(0, c[0], c[2]);
            Due.is("farther", x.point(0, 7), NONE);
        }
        LabelPlacer x = new LabelPlacer();
        x.addPoint(30, 20, 4, 2, 3, 255);
        x.addPoint(36, 22, 1, 1, 3, 255);
        x.show(0, 0);
        x.setPoint(0, 2, 5);
        Due.is("as far as a point", x.point(0, 7), 0);
        x.setPoint(0, 2, 6);
        Due.is("over the point", x.point(0, 7), NONE);
        x.show(0, 7);
        x.setPoint(0, 5, 128);
        Due.is("its side alone", x.point(0, 7), 7);
        x.setPoint(0, 5, 127);
        Due.is("without its side", x.point(0, 7), NONE);
    }

    /** The same of setWindow(), at all its edges. */
    private static void setWindowTakesLabels() {
        // The point lies at 30, 20, its label covers columns 26 to 29 and rows 21 and 22.
        int[][] windows = {{26, 10, 20, 20, 1}, {27, 10, 20, 20, NONE}, {10, 20, 30, 20, 1}, {10, 21, 30, 20, NONE},
            {10, 10, 21, 20, 1}, {10, 10, 20, 20, NONE}, {10, 10, 30, 13, 1}, {10, 10, 30, 12, NONE}};
        for (int[] w : windows) {
            LabelPlacer x = new LabelPlacer();
            x.addPoint(30, 20, 4, 2, 3, 255);
            x.show(0, 1);
            x.setWindow(w[0], w[1], w[2], w[3]);
            Due.is("the label in a window from " + w[0] + ", " + w[1] + " of " + w[2] + ", " + w[3], x.point(0, 7), w[4]);
            Due.is("labels that are shown", x.count(4), w[4] == NONE ? 0 : 1);
        }
    }

    /** The same of pan(), which has the point get another label then, if it can. */
    private static void panTakesLabels() {
        int[][] moves = {{26, 0, 1, 1}, {27, 0, 0, 0}, {0, 20, 1, 1}, {31, 0, 0, NONE}, {0, 21, 0, NONE}};
        for (int[] m : moves) {
            LabelPlacer x = new LabelPlacer();
            x.addPoint(30, 20, 4, 2, 3, 255);
            x.show(0, 1);
            Due.is("pan(" + m[0] + ", " + m[1] + ")", x.pan(m[0], m[1]), m[2]);
            Due.is("the label after pan(" + m[0] + ", " + m[1] + ")", x.point(0, 7), m[3]);
        }
    }

    /** "setPoint() also hides the label of its point, if it clashes with another one then" */
    private static void setPointHidesWhatClashes() {
        for (int priority = 1; priority <= 9; priority += 4) {
            LabelPlacer x = new LabelPlacer();
            x.addPoint(10, 10, 4, 1, priority, 255);
            x.addPoint(19, 10, 4, 1, 5, 255);
            // Row 11: the labels cover columns 11 to 14 and 15 to 18.
            x.show(0, 0);
            x.show(1, 1);
            x.setPoint(0, 3, 2);
            Due.is("higher, beside it", x.point(0, 7), 0);
            x.setPoint(0, 2, 5);
            Due.is("one cell wider", x.point(0, 7), NONE);
            Due.is("the other one stays", x.point(1, 7), 1);
            x.setPoint(0, 2, 4);
            x.show(0, 0);
            x.setPoint(1, 2, 5);
            Due.is("the other one wider", x.point(1, 7), NONE);
            Due.is("this one stays", x.point(0, 7), 0);
        }
    }
}
