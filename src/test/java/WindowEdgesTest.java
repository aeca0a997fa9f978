/** The boundary cases of promises 6 and 7, sentence by sentence: setWindow, pan. */
public final class WindowEdgesTest {
    private static final int NONE = LabelPlacer.NONE, BAD = LabelPlacer.BAD;
    private static final int MIN = Integer.MIN_VALUE, MAX = Integer.MAX_VALUE;

    public static void main(String[] args) {
        setWindowOnTheMap();
        setWindowFromZero();
        setWindowSizes();
        setWindowWrapsNothing();
        setWindowVisible();
        setWindowAddsNoLabels();
        panToTheEnds();
        panWrapsNothing();
        panKeepsTheSize();
        panStays();
        panFillsTheOthers();
        panFillsInTheirOrder();
        panMovesNoLabel();
        panOfNothing();
        panOfTwenty();
        Due.end();
    }

    private static void windowIs(String when, LabelPlacer x, int... due) {
        for (int i = 0; i < 4; i++) {
            Due.is(when + ": count(" + (6 + i) + ")", x.count(6 + i), due[i]);
        }
    }

    /** Promise 6: "Sets the window, all of which lies on the map." */
    private static void setWindowOnTheMap() {
        for (int size : new int[] {10, 11, 50, 99, 100}) {
            for (int least : new int[] {0, 1, 199 - size, 200 - size, 201 - size, 199, 200}) {
                boolean right = least + size <= 200;
                LabelPlacer x = new LabelPlacer();
                Due.is("columns from " + least + ", " + size, x.setWindow(least, 3, size, 20), right ? 0 : BAD);
                windowIs("columns from " + least, x, right ? new int[] {least, 3, size, 20} : new int[] {0, 0, 60, 40});
                LabelPlacer y = new LabelPlacer();
                Due.is("rows from " + least + ", " + size, y.setWindow(3, least, 20, size), right ? 0 : BAD);
                windowIs("rows from " + least, y, right ? new int[] {3, least, 20, size} : new int[] {0, 0, 60, 40});
            }
        }
    }

    /** Promise 6: "its least x, 0 or greater", "its least y, 0 or greater" */
    private static void setWindowFromZero() {
        LabelPlacer x = new LabelPlacer();
        x.setWindow(5, 6, 20, 30);
        for (int wrong : new int[] {-1, -10, -200, MIN, MIN + 1}) {
            Due.is("x = " + wrong, x.setWindow(wrong, 0, 20, 20), BAD);
            Due.is("y = " + wrong, x.setWindow(0, wrong, 20, 20), BAD);
        }
        windowIs("as before", x, 5, 6, 20, 30);
        Due.is("x = 0", x.setWindow(0, 1, 20, 20), 0);
        windowIs("x = 0", x, 0, 1, 20, 20);
        Due.is("y = 0", x.setWindow(1, 0, 20, 20), 0);
        windowIs("y = 0", x, 1, 0, 20, 20);
    }

    /** Promise 6: "width: 10 to 100", "height: 10 to 100" */
    private static void setWindowSizes() {
        LabelPlacer x = new LabelPlacer();
        x.setWindow(5, 6, 20, 30);
        for (int wrong : new int[] {9, 101, 0, -1, -10, MIN, MAX}) {
            Due.is("a width of " + wrong, x.setWindow(0, 0, wrong, 20), BAD);
            Due.is("a height of " + wrong, x.setWindow(0, 0, 20, wrong), BAD);
        }
        windowIs("as before", x, 5, 6, 20, 30);
        Due.is("the least", x.setWindow(0, 0, 10, 10), 0);
        windowIs("the least", x, 0, 0, 10, 10);
        Due.is("the greatest", x.setWindow(100, 100, 100, 100), 0);
        windowIs("the greatest", x, 100, 100, 100, 100);
    }

    /** The same with sums that would wrap around. */
    private static void setWindowWrapsNothing() {
        LabelPlacer x = new LabelPlacer();
        for (int size : new int[] {10, 20, 100}) {
            for (int least : new int[] {MAX, MAX - 5, MAX - size, MAX - size + 1, MAX - size + 2}) {
                Due.is("x = " + least + ", width " + size, x.setWindow(least, 0, size, 20), BAD);
                Due.is("y = " + least + ", height " + size, x.setWindow(0, least, 20, size), BAD);
            }
        }
        Due.is("all the greatest", x.setWindow(MAX, MAX, MAX, MAX), BAD);
        Due.is("all the least", x.setWindow(MIN, MIN, MIN, MIN), BAD);
        Due.is("a size that would be made up for", x.setWindow(MAX, MAX, MIN + 11, MIN + 11), BAD);
        windowIs("as at first", x, 0, 0, 60, 40);
    }

    /** Promise 6: "Returns the number of visible points" */
    private static void setWindowVisible() {
        LabelPlacer x = Scene.apart(20, 5);
        // They lie in columns 10, 30, 50, 70 and 90, and in rows 10, 30, 50 and 70.
        int[][] windows = {{0, 0, 100, 100, 20}, {0, 0, 10, 100, 0}, {0, 0, 11, 100, 4}, {10, 0, 10, 100, 4}, {11, 0, 19, 100, 0},
            {11, 0, 20, 100, 4}, {0, 0, 100, 10, 0}, {0, 0, 100, 11, 5}, {0, 70, 100, 10, 5}, {0, 71, 100, 100, 0},
            {90, 70, 10, 10, 1}, {91, 70, 10, 10, 0}, {100, 100, 100, 100, 0}, {10, 10, 21, 21, 4}};
        for (int[] w : windows) {
            Due.is("setWindow(" + w[0] + ", " + w[1] + ", " + w[2] + ", " + w[3] + ")", x.setWindow(w[0], w[1], w[2], w[3]), w[4]);
            Due.is("count(1)", x.count(1), w[4]);
        }
    }

    /** setWindow() does not give labels, as pan() does. */
    private static void setWindowAddsNoLabels() {
        LabelPlacer x = Scene.apart(20, 5);
        x.setWindow(0, 0, 60, 40);
        Due.is("labels", x.count(4), 0);
        x.fill();
        Due.is("labels", x.count(4), 6);
        x.setWindow(0, 0, 100, 100);
        Due.is("labels", x.count(4), 6);
    }

    /** Promise 7: "BAD if the window would not lie on the map" */
    private static void panToTheEnds() {
        for (int dx = -7; dx <= 147; dx++) {
            LabelPlacer x = new LabelPlacer();
            x.setWindow(5, 6, 50, 70);
            boolean right = dx >= -5 && dx <= 145;
            Due.is("pan(" + dx + ", 1)", x.pan(dx, 1), right ? 0 : BAD);
            windowIs("pan(" + dx + ", 1)", x, right ? 5 + dx : 5, right ? 7 : 6, 50, 70);
        }
        for (int dy = -8; dy <= 126; dy++) {
            LabelPlacer x = new LabelPlacer();
            x.setWindow(5, 6, 50, 70);
            boolean right = dy >= -6 && dy <= 124;
            Due.is("pan(1, " + dy + ")", x.pan(1, dy), right ? 0 : BAD);
            windowIs("pan(1, " + dy + ")", x, right ? 6 : 5, right ? 6 + dy : 6, 50, 70);
        }
    }

    /** The same with sums that would wrap around. */
    private static void panWrapsNothing() {
        LabelPlacer x = new LabelPlacer();
        x.setWindow(100, 100, 100, 100);
        for (int d : new int[] {MAX, MAX - 98, MAX - 99, MAX - 100, MAX - 198, MAX - 199, MAX - 200, MIN, MIN + 1, MIN + 100}) {
            Due.is("pan(" + d + ", 0)", x.pan(d, 0), BAD);
            Due.is("pan(0, " + d + ")", x.pan(0, d), BAD);
            Due.is("pan(" + d + ", " + d + ")", x.pan(d, d), BAD);
        }
        windowIs("as before", x, 100, 100, 100, 100);
    }

    /** Promise 7: "Moves the window." */
    private static void panKeepsTheSize() {
        LabelPlacer x = new LabelPlacer();
        Due.is("to the last corner", x.pan(140, 160), 0);
        windowIs("to the last corner", x, 140, 160, 60, 40);
        Due.is("back", x.pan(-140, -160), 0);
        windowIs("back", x, 0, 0, 60, 40);
        Due.is("nowhere", x.pan(0, 0), 0);
        windowIs("nowhere", x, 0, 0, 60, 40);
    }

    /** Promise 7: "The labels that are shown and are at places still stay", "Returns the number of labels that stayed" */
    private static void panStays() {
        LabelPlacer x = new LabelPlacer();
        x.addPoint(30, 20, 4, 2, 1, 255);
        x.addPoint(30, 30, 4, 2, 9, 255);
        x.show(0, 5);
        Due.is("the least column of its label", x.pan(26, 0), 1);
        Due.is("its side", x.point(0, 7), 5);
        Due.is("the other got one, which did not stay", x.point(1, 7), 0);
        Due.is("now both stay", x.pan(0, 0), 2);
        Due.is("one column more", x.pan(1, 0), 1);
        Due.is("it got another one", x.point(0, 7), 0);
        Due.is("the column of the points", x.pan(3, 0), 2);
        Due.is("one column more", x.pan(1, 0), 0);
        Due.is("none is left", x.count(4), 0);
    }

    /** Promise 7: "then all other visible points, in their order, get a label, if possible, as by fill()" */
    private static void panFillsTheOthers() {
        LabelPlacer x = new LabelPlacer();
        x.addPoint(30, 20, 4, 1, 3, 1);
        x.addPoint(32, 20, 4, 1, 4, 1 + 128);
        x.addPoint(34, 20, 4, 1, 4, 1 + 128);
        x.addPoint(90, 20, 4, 1, 9, 255);
        // Row 21: columns 31 to 34, 33 to 36 and 35 to 38; row 19: columns 31 to 34 and 33 to 36.
        Due.is("pan(1, 0)", x.pan(1, 0), 0);
        Due.is("the first in their order", x.point(1, 7), 0);
        Due.is("on its least free side", x.point(2, 7), 7);
        Due.is("not possible", x.point(0, 7), NONE);
        Due.is("not visible", x.point(3, 7), NONE);
        x.hideAll();
        x.show(0, 0);
        Due.is("pan(0, 1)", x.pan(0, 1), 1);
        Due.is("a lower one that stays is not in their order", x.point(0, 7), 0);
        Due.is("the others come after it", x.point(1, 7), 7);
        Due.is("and after that", x.point(2, 7), 0);
    }

    /** The same: those that lost their label come in their order, not before those that had none. */
    private static void panFillsInTheirOrder() {
        LabelPlacer x = new LabelPlacer();
        x.addPoint(30, 20, 4, 1, 3, 1 + 2);
        x.addPoint(32, 20, 4, 1, 5, 1);
        x.show(0, 1);
        // Row 21: columns 26 to 29, or 31 to 34, and 33 to 36.
        Due.is("column 26 goes", x.pan(27, 0), 0);
        Due.is("the more important one, which had none", x.point(1, 7), 0);
        Due.is("the one that lost its label", x.point(0, 7), NONE);
    }

    /** The same: "as by fill()", so no label moves or disappears to make room. */
    private static void panMovesNoLabel() {
        LabelPlacer x = new LabelPlacer();
        x.addPoint(30, 20, 4, 1, 3, 255);
        x.addPoint(32, 20, 4, 1, 9, 1);
        x.show(0, 0);
        Due.is("pan(1, 0)", x.pan(1, 0), 1);
        Due.is("the lower one stays", x.point(0, 7), 0);
        Due.is("the more important one gets none", x.point(1, 7), NONE);
    }

    private static void panOfNothing() {
        LabelPlacer x = new LabelPlacer();
        Due.is("without points", x.pan(1, 1), 0);
        x.addPoint(199, 199, 1, 1, 1, 255);
        Due.is("without visible points", x.pan(1, 1), 0);
        Due.is("no label", x.count(4), 0);
    }

    private static void panOfTwenty() {
        LabelPlacer x = Scene.apart(20, 5);
        Due.is("none stays", x.pan(0, 0), 0);
        Due.is("all get one", x.count(4), 20);
        Due.is("all stay", x.pan(1, 1), 20);
        Due.is("one column goes", x.pan(10, 0), 16);
    }
}
