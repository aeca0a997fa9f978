/** Promises 6 and 7: setWindow, pan. */
public final class WindowTest {
    private static final int MIN = Integer.MIN_VALUE, MAX = Integer.MAX_VALUE;

    public static void main(String[] args) {
        setWindowAnswers();
        setWindowRanges();
        setWindowHides();
        panAnswers();
        panRanges();
        panFillsInOrder();
        Due.end();
    }

    private static void windowIs(LabelPlacer x, int left, int bottom, int width, int height) {
        Due.is("count(6)", x.count(6), left);
        Due.is("count(7)", x.count(7), bottom);
        Due.is("count(8)", x.count(8), width);
        Due.is("count(9)", x.count(9), height);
    }

    private static void setWindowAnswers() {
        LabelPlacer x = new LabelPlacer();
        x.addPoint(10, 20, 1, 1, 1, 255);
        x.addPoint(9, 20, 1, 1, 1, 255);
        x.addPoint(24, 31, 1, 1, 1, 255);
        x.addPoint(25, 31, 1, 1, 1, 255);
        x.addPoint(24, 32, 1, 1, 1, 255);
        x.addPoint(10, 19, 1, 1, 1, 255);
        Due.is("setWindow(10, 20, 15, 12)", x.setWindow(10, 20, 15, 12), 2);
        windowIs(x, 10, 20, 15, 12);
        Due.is("its first cell", x.point(0, 6), 1);
        Due.is("left of it", x.point(1, 6), 0);
        Due.is("its last cell", x.point(2, 6), 1);
        Due.is("right of it", x.point(3, 6), 0);
        Due.is("above it", x.point(4, 6), 0);
        Due.is("below it", x.point(5, 6), 0);
        Due.is("setWindow(0, 0, 100, 100)", x.setWindow(0, 0, 100, 100), 6);
        Due.is("setWindow(100, 100, 100, 100)", x.setWindow(100, 100, 100, 100), 0);
        Due.is("setWindow(190, 0, 10, 100)", x.setWindow(190, 0, 10, 100), 0);
        Due.is("setWindow(0, 190, 100, 10)", x.setWindow(0, 190, 100, 10), 0);
    }

    private static void setWindowRanges() {
        LabelPlacer x = new LabelPlacer();
        int[][] wrong = {
            {-1, 0, 20, 20}, {0, -1, 20, 20}, {0, 0, 9, 20}, {0, 0, 20, 9}, {0, 0, 101, 20}, {0, 0, 20, 101},
            {181, 0, 20, 20}, {0, 181, 20, 20}, {101, 0, 100, 20}, {0, 101, 20, 100}, {MAX, 0, 20, 20}, {0, MAX, 20, 20},
            {MIN, 0, 20, 20}, {0, MIN, 20, 20}, {0, 0, MAX, 20}, {0, 0, 20, MAX}, {0, 0, MIN, 20}, {0, 0, 20, MIN},
            {MAX, MAX, MAX, MAX}, {1, 1, 0, 0}, {1, 1, -10, -10}
        };
        for (int[] w : wrong) {
            String call = "setWindow(" + w[0] + ", " + w[1] + ", " + w[2] + ", " + w[3] + ")";
            Due.is(call, x.setWindow(w[0], w[1], w[2], w[3]), LabelPlacer.BAD);
            windowIs(x, 0, 0, 60, 40);
        }
    }

    private static void setWindowHides() {
        LabelPlacer x = new LabelPlacer();
        x.addPoint(10, 10, 4, 2, 3, 255);
        x.addPoint(30, 10, 4, 2, 3, 255);
        x.show(0, 0);
        x.show(1, 1);
        Due.is("labels just inside", x.setWindow(10, 10, 21, 10), 2);
        Due.is("stay", x.count(4), 2);
        Due.is("a point outside", x.setWindow(11, 10, 20, 10), 1);
        Due.is("loses its label, though the label would be inside", x.point(0, 7), LabelPlacer.NONE);
        Due.is("the other one does not", x.point(1, 7), 1);
        Due.is("a label that is cut", x.setWindow(27, 10, 20, 10), 1);
        Due.is("disappears", x.point(1, 7), LabelPlacer.NONE);
        Due.is("back", x.setWindow(0, 0, 60, 40), 2);
        Due.is("setWindow shows no labels", x.count(4), 0);
    }

    private static void panAnswers() {
        LabelPlacer x = new LabelPlacer();
        x.addPoint(10, 10, 4, 2, 3, 255);
        x.addPoint(65, 10, 4, 2, 3, 255);
        x.show(0, 3);
        Due.is("pan(5, 0)", x.pan(5, 0), 1);
        windowIs(x, 5, 0, 60, 40);
        Due.is("its label stayed on its side", x.point(0, 7), 3);
        Due.is("the other one is not visible", x.point(1, 7), LabelPlacer.NONE);
        Due.is("pan(5, 0) again", x.pan(5, 0), 0);
        Due.is("a label that is cut gets another side", x.point(0, 7), 0);
        Due.is("a point that comes gets a label", x.point(1, 7), 0);
        Due.is("pan(0, 0)", x.pan(0, 0), 2);
        Due.is("pan(-10, 11)", x.pan(-10, 11), 0);
        windowIs(x, 0, 11, 60, 40);
        Due.is("points that left have no label", x.count(4), 0);
        Due.is("pan to the corner", x.pan(140, 149), 0);
        windowIs(x, 140, 160, 60, 40);
    }

    private static void panRanges() {
        LabelPlacer x = new LabelPlacer();
        x.addPoint(20, 20, 4, 2, 3, 255);
        x.setWindow(10, 10, 100, 20);
        int[][] wrong = {
            {-11, 0}, {0, -11}, {91, 0}, {0, 171}, {MAX, 0}, {MIN, 0}, {0, MAX}, {0, MIN}, {MAX, MAX}, {MAX - 9, 0},
            {0, MAX - 9}, {MIN, MIN}
        };
        for (int[] d : wrong) {
            Due.is("pan(" + d[0] + ", " + d[1] + ")", x.pan(d[0], d[1]), LabelPlacer.BAD);
            windowIs(x, 10, 10, 100, 20);
        }
        Due.is("an error fills nothing", x.count(4), 0);
        Due.is("pan(90, 170)", x.pan(90, 170), 0);
        Due.is("pan(-100, -180)", x.pan(-100, -180), 0);
        windowIs(x, 0, 0, 100, 20);
    }

    private static void panFillsInOrder() {
        LabelPlacer x = new LabelPlacer();
        x.addPoint(20, 20, 4, 1, 3, 1);
        x.addPoint(22, 20, 4, 1, 3, 1);
        x.addPoint(18, 20, 4, 1, 4, 1);
        Due.is("pan(1, 1)", x.pan(1, 1), 0);
        Due.is("the greatest priority comes first", x.point(2, 7), 0);
        Due.is("it is in the way of the first", x.point(0, 7), LabelPlacer.NONE);
        Due.is("not of the second", x.point(1, 7), 0);
        x.hideAll();
        x.show(0, 0);
        Due.is("pan(1, 0)", x.pan(1, 0), 1);
        Due.is("a label that stays is not pushed away", x.point(0, 7), 0);
        Due.is("others find no room", x.count(4), 1);
    }
}
