import java.util.function.Supplier;
import java.util.function.ToIntFunction;

/** What the document says of errors: which one is returned, that it changes nothing, and that NONE is not one. */
public final class ErrorsTest {
    private static final int NONE = LabelPlacer.NONE, BAD = LabelPlacer.BAD, STATE = LabelPlacer.STATE,
            FULL = LabelPlacer.FULL;
    private static final int MIN = Integer.MIN_VALUE, MAX = Integer.MAX_VALUE;

    public static void main(String[] args) {
        addPointReturnsTheFirst();
        clashReturnsTheFirst();
        showReturnsTheFirst();
        typeReturnsTheFirst();
        noneOnlyWithoutError();
        noneIsNoError();
        addPointChangesNothing();
        removePointChangesNothing();
        setPointChangesNothing();
        setWindowChangesNothing();
        panChangesNothing();
        showChangesNothing();
        leadersChangesNothing();
        typeChangesNothing();
        runChangesNothing();
        runOfRefusedCommands();
        questionsChangeNothing();
        answersChangeNothing();
        Due.end();
    }

    /** "If several of them apply to a call, the one that comes first in the description of the result is returned." */
    private static void addPointReturnsTheFirst() {
        LabelPlacer few = Scene.busy();
        Due.is("BAD and STATE", few.addPoint(10, 10, 0, 1, 1, 1), BAD);
        LabelPlacer x = Scene.full();
        Due.is("BAD and FULL", x.addPoint(200, 10, 1, 1, 1, 1), BAD);
        Due.is("STATE and FULL", x.addPoint(20, 10, 1, 1, 1, 1), STATE);
        Due.is("BAD, STATE and FULL", x.addPoint(20, 10, 1, 1, 1, 256), BAD);
        Due.is("FULL alone", x.addPoint(21, 10, 1, 1, 1, 1), FULL);
    }

    /** The same of clash(): "BAD, also if both points are the same; STATE if one of them is no place". */
    private static void clashReturnsTheFirst() {
        LabelPlacer x = Scene.busy();
        Due.is("BAD for the other point, STATE for the first", x.clash(1, 1, 5, 0), BAD);
        Due.is("BAD for its side, STATE for the first", x.clash(1, 1, 0, 8), BAD);
        Due.is("BAD for the first point, STATE for the other", x.clash(-1, 0, 1, 1), BAD);
        Due.is("BAD for the side, STATE for the other", x.clash(0, -1, 1, 1), BAD);
        Due.is("the same point, and no place", x.clash(1, 1, 1, 2), BAD);
        Due.is("STATE alone", x.clash(1, 1, 0, 0), STATE);
    }

    /** The same of show(): "BAD; STATE if it is no place". */
    private static void showReturnsTheFirst() {
        LabelPlacer x = Scene.busy();
        Due.is("a side that is none is no place either", x.show(0, 8), BAD);
        Due.is("a point that is none has no place either", x.show(5, 0), BAD);
        Due.is("STATE alone", x.show(1, 1), STATE);
    }

    /** The same of type(): "BAD; FULL if it has 80 bytes". */
    private static void typeReturnsTheFirst() {
        LabelPlacer x = Scene.full();
        Due.is("BAD and FULL", x.type(128), BAD);
        Due.is("BAD and FULL below 0", x.type(-1), BAD);
        Due.is("FULL alone", x.type(127), FULL);
    }

    /** "NONE ... is returned only if no error applies." */
    private static void noneOnlyWithoutError() {
        LabelPlacer x = new LabelPlacer();
        Due.is("no leader, and a wrong property", x.leader(0, 4), BAD);
        Due.is("no leader, and a negative property", x.leader(0, -1), BAD);
        Due.is("a negative leader", x.leader(-1, 0), BAD);
        Due.is("no label, and no cell of the map", x.labelAt(200, 0), BAD);
        Due.is("no label, and no cell of the map below", x.labelAt(0, -1), BAD);
        Due.is("no point, so no side of its label", x.point(0, 7), BAD);
        Due.is("no point, so no previous side", x.show(0, NONE), BAD);
    }

    /** "NONE is not an error; it means that there is no such thing" */
    private static void noneIsNoError() {
        LabelPlacer x = Scene.busy();
        Due.is("no leader", x.leader(2, 0), NONE);
        Due.is("no label", x.labelAt(0, 0), NONE);
        Due.is("no side", x.point(1, 7), NONE);
        Due.is("no previous side", x.show(4, 0), NONE);
        Due.is("though it is shown now", x.point(4, 7), 0);
    }

    private static void refused(String name, ToIntFunction<LabelPlacer> call, int due) {
        Refused.call(name, Scene::busy, call, due);
    }

    private static void refusedIn(Supplier<LabelPlacer> history, String name, ToIntFunction<LabelPlacer> call, int due) {
        Refused.call(name, history, call, due);
    }

    /** "A call that returns an error changes nothing." */
    private static void addPointChangesNothing() {
        int[] least = {0, 0, 1, 1, 1, 1};
        int[] greatest = {199, 199, 20, 6, 9, 255};
        for (int i = 0; i < 6; i++) {
            for (int value : new int[] {least[i] - 1, greatest[i] + 1, MIN, MAX}) {
                int[] a = {15, 15, 3, 2, 5, 7};
                a[i] = value;
                refused("addPoint() with " + value + " as argument " + i,
                        x -> x.addPoint(a[0], a[1], a[2], a[3], a[4], a[5]), BAD);
            }
        }
        refused("addPoint() into the cell of a point", x -> x.addPoint(12, 10, 7, 3, 2, 254), STATE);
        refused("addPoint() into the cell of a point outside", x -> x.addPoint(100, 100, 7, 3, 2, 254), STATE);
        refusedIn(Scene::full, "addPoint() of point 21", x -> x.addPoint(21, 11, 7, 3, 2, 254), FULL);
        refusedIn(Scene::full, "addPoint() of point 21 into a cell that is taken", x -> x.addPoint(20, 10, 7, 3, 2, 254), STATE);
    }

    private static void removePointChangesNothing() {
        for (int p : new int[] {-1, 5, MIN, MAX}) {
            refused("removePoint(" + p + ")", x -> x.removePoint(p), BAD);
        }
        refusedIn(Scene::full, "removePoint(20) of 20", x -> x.removePoint(20), BAD);
        refusedIn(LabelPlacer::new, "removePoint(0) of none", x -> x.removePoint(0), BAD);
    }

    private static void setPointChangesNothing() {
        int[] greatest = {199, 199, 20, 6, 9, 255};
        for (int what = 2; what <= 5; what++) {
            int property = what;
            for (int value : new int[] {0, greatest[what] + 1, MIN, MAX}) {
                refused("setPoint(0, " + what + ", " + value + ")", x -> x.setPoint(0, property, value), BAD);
            }
        }
        for (int what : new int[] {-1, 0, 1, 6, 7, 8, MIN, MAX}) {
            refused("setPoint(0, " + what + ", 1)", x -> x.setPoint(0, what, 1), BAD);
        }
        for (int p : new int[] {-1, 5, MIN, MAX}) {
            refused("setPoint(" + p + ", 2, 1)", x -> x.setPoint(p, 2, 1), BAD);
        }
    }

    private static void setWindowChangesNothing() {
        int[][] wrong = {{-1, 0, 10, 10}, {0, -1, 10, 10}, {0, 0, 9, 10}, {0, 0, 10, 9}, {0, 0, 101, 10}, {0, 0, 10, 101},
            {191, 0, 10, 10}, {0, 191, 10, 10}, {MAX, 0, 10, 10}, {0, MAX, 10, 10}, {0, 0, MAX, 10}, {0, 0, 10, MAX}};
        for (int[] w : wrong) {
            refused("setWindow(" + w[0] + ", " + w[1] + ", " + w[2] + ", " + w[3] + ")",
                    x -> x.setWindow(w[0], w[1], w[2], w[3]), BAD);
        }
    }

    private static void panChangesNothing() {
        int[][] wrong = {{-6, 0}, {0, -6}, {156, 0}, {0, 166}, {1, -6}, {-6, 1}, {MAX, 1}, {1, MAX}, {MIN, 1}, {1, MIN}};
        for (int[] d : wrong) {
            refused("pan(" + d[0] + ", " + d[1] + ")", x -> x.pan(d[0], d[1]), BAD);
        }
    }

    private static void showChangesNothing() {
        for (int p : new int[] {-1, 5, MIN, MAX}) {
            refused("show(" + p + ", 0)", x -> x.show(p, 0), BAD);
            refused("show(" + p + ", NONE)", x -> x.show(p, NONE), BAD);
        }
        for (int side : new int[] {-2, 8, MIN, MAX}) {
            refused("show(0, " + side + ")", x -> x.show(0, side), BAD);
        }
        refused("show() of a label elsewhere, where it is no place", x -> x.show(2, 7), STATE);
        refused("show() where it is no place", x -> x.show(1, 1), STATE);
        refused("show() of a point that is not visible", x -> x.show(3, 0), STATE);
        refused("show() in the way of a label", x -> x.show(1, 0), STATE);
    }

    private static void leadersChangesNothing() {
        refusedIn(Scene::fullAndLow, "leaders() with a slot below the window", LabelPlacer::leaders, STATE);
    }

    private static void typeChangesNothing() {
        for (int letter : new int[] {-1, 128, MIN, MAX}) {
            refused("type(" + letter + ")", x -> x.type(letter), BAD);
            refusedIn(Scene::full, "type(" + letter + ") behind 80 bytes", x -> x.type(letter), BAD);
        }
        refusedIn(Scene::full, "type() of byte 81", x -> x.type('2'), FULL);
    }

    /** "-2000 - p if the text has the fault p (the text stays, and nothing is done)" */
    private static void runChangesNothing() {
        refused("run() of 'pan 1'", LabelPlacer::run, -2005);
        refusedIn(Scene::full, "run() of 'pan 1' and 75 blanks", LabelPlacer::run, -2080);
        for (String text : new String[] {"", "labels", "hide 1", "label-", "improve 7", "window 1 1 20", "pan 1 2 3"}) {
            Supplier<LabelPlacer> typed = () -> {
                LabelPlacer x = Scene.busy();
                x.clear();
                Due.type(x, text);
                return x;
            };
            Due.holds("a fault in '" + text + "'", typed.get().run() <= -2000);
            refusedIn(typed, "run() of '" + text + "'", x -> x.run() <= -2000 ? 1 : 0, 1);
        }
    }

    /** "empties the text, whatever the command returns": nothing but the text changes, if it returns an error. */
    private static void runOfRefusedCommands() {
        String[] commands = {"point 200 1 1 1 1", "point 1 1 0 1 1", "point 12 10 1 1 1", "window 1 1 9 10",
            "window 191 0 10 10", "pan -6 0", "pan 0 166"};
        int[] due = {BAD, BAD, STATE, BAD, BAD, BAD, BAD};
        for (int i = 0; i < commands.length; i++) {
            refusedIntoNothing(commands[i], Scene::busy, due[i]);
        }
        refusedIntoNothing("point 21 11 1 1 1", Scene::full, FULL);
    }

    private static void refusedIntoNothing(String command, Supplier<LabelPlacer> history, int due) {
        LabelPlacer refused = history.get();
        refused.clear();
        Due.type(refused, command);
        Due.is("run() of '" + command + "'", refused.run(), due);
        LabelPlacer spared = history.get();
        spared.clear();
        Refused.areAlike("run() of '" + command + "'", refused, spared);
    }

    private static void questionsChangeNothing() {
        for (int wrong : new int[] {-1, 20, 200, MIN, MAX}) {
            refused("point(" + wrong + ", 0)", x -> x.point(wrong, 0), BAD);
            refused("point(0, " + wrong + ")", x -> x.point(0, wrong), BAD);
            refused("place(" + wrong + ", 0, 0)", x -> x.place(wrong, 0, 0), BAD);
            refused("place(0, " + wrong + ", 0)", x -> x.place(0, wrong, 0), BAD);
            refused("place(0, 0, " + wrong + ")", x -> x.place(0, 0, wrong), BAD);
            refused("clash(" + wrong + ", 0, 1, 0)", x -> x.clash(wrong, 0, 1, 0), BAD);
            refused("clash(0, 0, 1, " + wrong + ")", x -> x.clash(0, 0, 1, wrong), BAD);
            refused("leader(0, " + wrong + ")", x -> x.leader(0, wrong), BAD);
            refused("count(" + wrong + ")", x -> x.count(wrong), BAD);
        }
        refused("clash(0, 0, 0, 0)", x -> x.clash(0, 0, 0, 0), BAD);
        refused("clash(1, 1, 0, 0)", x -> x.clash(1, 1, 0, 0), STATE);
        refused("labelAt(-1, 0)", x -> x.labelAt(-1, 0), BAD);
        refused("labelAt(0, 200)", x -> x.labelAt(0, 200), BAD);
        refused("leader(-1, 0)", x -> x.leader(-1, 0), BAD);
        refusedIn(Scene::full, "greatest() with 20 points", LabelPlacer::greatest, STATE);
    }

    /** Nor do the calls that only tell something, if they are right. */
    private static void answersChangeNothing() {
        refused("point(2, 7)", x -> x.point(2, 7), 6);
        refused("place(1, 0, 4)", x -> x.place(1, 0, 4), 1);
        refused("clash(0, 0, 1, 0)", x -> x.clash(0, 0, 1, 0), 1);
        refused("labelAt(11, 11)", x -> x.labelAt(11, 11), 0);
        refused("greatest()", LabelPlacer::greatest, 20);
        refused("leader(1, 0)", x -> x.leader(1, 0), 1);
        refused("leader(2, 0)", x -> x.leader(2, 0), NONE);
        refused("count(12)", x -> x.count(12), 1);
        refused("digest()", x -> x.digest() == x.digest() ? 1 : 0, 1);
    }
}
