/** Maps that several tests begin with. */
final class Scene {
    private Scene() {
    }

    /** Labels, points without labels, one that is not visible, leaders that are kept, and an unfinished text. */
    static LabelPlacer busy() {
        LabelPlacer x = new LabelPlacer();
        x.setWindow(5, 5, 40, 30);
        x.addPoint(10, 10, 4, 2, 3, 255);
        x.addPoint(12, 10, 5, 1, 3, 1);
        x.addPoint(30, 20, 3, 1, 5, 127);
        x.addPoint(100, 100, 3, 1, 5, 255);
        x.addPoint(20, 30, 6, 2, 9, 5);
        x.show(0, 0);
        x.show(2, 6);
        x.leaders();
        Due.type(x, "pan 1");
        return x;
    }

    /** Twenty points with places and a text of 80 bytes, in a window with rows enough for the leaders. */
    static LabelPlacer full() {
        LabelPlacer x = new LabelPlacer();
        for (int i = 0; i < 20; i++) {
            x.addPoint(20 + 2 * (i % 5), 10 + 2 * (i / 5), 3 + i % 4, 1 + i % 3, 1 + i * 7 % 9, 255);
        }
        x.leaders();
        Due.type(x, "pan 1" + " ".repeat(75));
        return x;
    }

    /** The same in a window with a row too few for the leaders. */
    static LabelPlacer fullAndLow() {
        LabelPlacer x = full();
        x.setWindow(0, 0, 60, 38);
        return x;
    }

    /** Points in a row, as many as told, far enough from each other for all their labels. */
    static LabelPlacer apart(int points, int priority) {
        LabelPlacer x = new LabelPlacer();
        x.setWindow(0, 0, 100, 100);
        for (int i = 0; i < points; i++) {
            x.addPoint(10 + 20 * (i % 5), 10 + 20 * (i / 5), 4, 2, priority, 255);
        }
        return x;
    }
}
