import java.util.function.ToIntFunction;

/**
 * "Nothing is promised beyond the answers and state changes described above": a call that returns no error changes what
 * its description says, and leaves the rest as it was.
 */
public final class KeptTest {
    private static final int POINTS = 1, WINDOW = 2, LABELS = 4, LEADERS = 8, TEXT = 16;
    private static final int[] PARTS = {POINTS, WINDOW, LABELS, LEADERS};
    private static final int NONE = LabelPlacer.NONE;

    public static void main(String[] args) {
        pointsAndWindow();
        placing();
        leaderLines();
        text();
        commands();
        Due.end();
    }

    private static void changes(int parts, String name, ToIntFunction<LabelPlacer> call, int due) {
        LabelPlacer x = Scene.busy();
        String[] before = new String[PARTS.length];
        for (int i = 0; i < PARTS.length; i++) {
            before[i] = part(x, PARTS[i]);
        }
        Due.is(name, call.applyAsInt(x), due);
        for (int i = 0; i < PARTS.length; i++) {
            boolean told = (parts & PARTS[i]) != 0;
            Due.holds(name + (told ? " changes this: " : " leaves this: ") + before[i],
                    before[i].equals(part(x, PARTS[i])) != told);
        }
        if ((parts & TEXT) == 0) {
            textIsKept(name, x);
        }
    }

    private static String part(LabelPlacer x, int part) {
        switch (part) {
            case POINTS:
                return points(x);
            case WINDOW:
                return "window " + x.count(6) + " " + x.count(7) + " " + x.count(8) + " " + x.count(9);
            case LABELS:
                return labels(x);
            default:
                return leaders(x);
        }
    }

    private static String points(LabelPlacer x) {
        StringBuilder told = new StringBuilder("points");
        for (int p = 0; p < x.count(0); p++) {
            told.append(" /");
            for (int what = 0; what <= 5; what++) {
                told.append(' ').append(x.point(p, what));
            }
        }
        return told.toString();
    }

    /** By the cells of their points, since removePoint() changes the numbers. */
    private static String labels(LabelPlacer x) {
        StringBuilder told = new StringBuilder("labels");
        for (int p = 0; p < x.count(0); p++) {
            if (x.point(p, 7) != NONE) {
                told.append(" / ").append(x.point(p, 0)).append(' ').append(x.point(p, 1)).append(' ').append(x.point(p, 7));
            }
        }
        return told.toString();
    }

    private static String leaders(LabelPlacer x) {
        StringBuilder told = new StringBuilder("leaders " + x.count(10));
        for (int i = 0; i < x.count(10); i++) {
            told.append(" /");
            for (int what = 0; what <= 3; what++) {
                told.append(' ').append(x.leader(i, what));
            }
        }
        return told.toString();
    }

    /** The text is "pan 1" still, if it moves the window by one column when it is finished. */
    private static void textIsKept(String name, LabelPlacer x) {
        Due.is(name + ": bytes of the text", x.count(11), 5);
        int column = x.count(6);
        int row = x.count(7);
        Due.type(x, " -2");
        Due.holds(name + ": the text is a command", x.run() >= 0);
        Due.is(name + ": its first number", x.count(6), column + 1);
        Due.is(name + ": its second number", x.count(7), row - 2);
    }

    private static void pointsAndWindow() {
        changes(POINTS, "addPoint() beside all", x -> x.addPoint(40, 8, 2, 1, 4, 255), 5);
        changes(POINTS + LABELS, "addPoint() into a label", x -> x.addPoint(11, 11, 2, 1, 4, 255), 5);
        changes(POINTS, "removePoint() of one without a label", x -> x.removePoint(1), 4);
        changes(POINTS + LABELS, "removePoint() of one with a label", x -> x.removePoint(0), 4);
        changes(POINTS, "setPoint() of a priority", x -> x.setPoint(0, 4, 9), 3);
        changes(POINTS, "setPoint() of a width for which there is room", x -> x.setPoint(0, 2, 5), 4);
        changes(POINTS, "setPoint() of a set with the side", x -> x.setPoint(2, 5, 64), 127);
        changes(POINTS + LABELS, "setPoint() of a set without the side", x -> x.setPoint(2, 5, 63), 127);
        changes(0, "setPoint() of what it is", x -> x.setPoint(2, 5, 127), 127);
        changes(WINDOW, "setWindow() around all labels", x -> x.setWindow(6, 6, 50, 40), 4);
        changes(WINDOW + LABELS, "setWindow() without a label", x -> x.setWindow(20, 10, 30, 30), 2);
        changes(WINDOW + LABELS, "pan()", x -> x.pan(1, 1), 2);
        changes(LABELS, "pan() by nothing", x -> x.pan(0, 0), 2);
    }

    private static void placing() {
        changes(LABELS, "fill()", LabelPlacer::fill, 1);
        changes(LABELS, "improve()", LabelPlacer::improve, 2);
        changes(LABELS, "push()", LabelPlacer::push, 1);
        changes(LABELS, "show()", x -> x.show(4, 2), NONE);
        changes(LABELS, "show() on another side", x -> x.show(0, 3), 0);
        changes(LABELS, "show() of NONE", x -> x.show(0, NONE), 0);
        changes(0, "show() as it is", x -> x.show(0, 0), 0);
        changes(LABELS, "hideAll()", LabelPlacer::hideAll, 2);
        changes(0, "greatest()", LabelPlacer::greatest, 20);
    }

    private static void leaderLines() {
        changes(0, "leaders() as they are", LabelPlacer::leaders, 2);
        changes(LABELS + LEADERS, "leaders() after hideAll()", x -> {
            x.hideAll();
            return x.leaders();
        }, 4);
    }

    private static void text() {
        changes(TEXT, "type()", x -> x.type('x'), 6);
        changes(TEXT, "clear()", LabelPlacer::clear, 5);
    }

    private static void commands() {
        changes(TEXT + POINTS, "run() of a point", x -> typed(x, "point 40 8 2 1 4"), 5);
        changes(TEXT + WINDOW, "run() of a window", x -> typed(x, "window 6 6 50 40"), 4);
        changes(TEXT + WINDOW + LABELS, "run() of pan", x -> typed(x, "pan 1 1"), 2);
        changes(TEXT + LABELS, "run() of label", x -> typed(x, "label"), 1);
        changes(TEXT + LABELS, "run() of improve", x -> typed(x, "improve"), 2);
        changes(TEXT + LABELS, "run() of hide", x -> typed(x, "hide"), 2);
        changes(TEXT, "run() of a fault", x -> typed(x, "hide 1"), -2005);
    }

    private static int typed(LabelPlacer x, String command) {
        x.clear();
        Due.type(x, command);
        return x.run();
    }
}
