/** The boundary cases of promises 17 and 18, sentence by sentence: leaders, leader. */
public final class LeaderEdgesTest {
    private static final int NONE = LabelPlacer.NONE, BAD = LabelPlacer.BAD, STATE = LabelPlacer.STATE;
    private static final int MIN = Integer.MIN_VALUE, MAX = Integer.MAX_VALUE;

    public static void main(String[] args) {
        leadersOfNone();
        leadersOfTwenty();
        leadersOfVisiblePoints();
        leadersInOrder();
        slotsFromTheHighestRow();
        bendsGoingUp();
        bendsNotGoingUp();
        bendsOfBothKinds();
        bendsInTheRowOfTheSlot();
        margin();
        keptUntilTheNext();
        keptInAnotherWindow();
        keptThroughErrors();
        keptByNumber();
        noneAreKeptToo();
        slotsInTheLowestRow();
        slotsBelowTheWindow();
        leaderNumbers();
        leaderProperties();
        lengthOfLeaders();
        Due.end();
    }

    private static void leaderIs(String when, LabelPlacer x, int leader, int... due) {
        for (int what = 0; what < due.length; what++) {
            Due.is(when + ": leader(" + leader + ", " + what + ")", x.leader(leader, what), due[what]);
        }
    }

    /** Points in the cells, in a window of 20 columns and 30 rows from 10, 40 on: the last are column 29 and row 69. */
    private static LabelPlacer with(int[]... cells) {
        LabelPlacer x = new LabelPlacer();
        x.setWindow(10, 40, 20, 30);
        for (int[] c : cells) {
            x.addPoint(c[0], c[1], 1, 1, 1, 255);
        }
        return x;
    }

    /** Promise 17: "Returns the number of leaders" */
    private static void leadersOfNone() {
        LabelPlacer x = new LabelPlacer();
        Due.is("without points", x.leaders(), 0);
        Due.is("count(10)", x.count(10), 0);
        Due.is("leader(0, 0)", x.leader(0, 0), NONE);
        x.setWindow(0, 0, 10, 10);
        Due.is("in the least window", x.leaders(), 0);
    }

    private static void leadersOfTwenty() {
        LabelPlacer x = Scene.apart(20, 5);
        Due.is("twenty", x.leaders(), 20);
        Due.is("count(10)", x.count(10), 20);
        Due.is("the last one's slot", x.leader(19, 1), 99 - 38);
        Due.is("the one after it", x.leader(20, 1), NONE);
        Due.is("the first one's point", x.leader(0, 0), 15);
        Due.is("the last one's point", x.leader(19, 0), 4);
    }

    /** Promise 17: "for all visible points without a label" */
    private static void leadersOfVisiblePoints() {
        LabelPlacer x = with(new int[][] {{10, 40}, {29, 69}, {9, 40}, {30, 69}, {10, 39}, {29, 70}, {20, 50}});
        x.show(6, 0);
        Due.is("the two in the corners", x.leaders(), 2);
        leaderIs("the upper corner", x, 0, 1);
        leaderIs("the lower corner", x, 1, 0);
        x.show(0, 0);
        Due.is("one with a label less", x.leaders(), 1);
        x.show(1, 3);
        Due.is("none is left", x.leaders(), 0);
        x.hideAll();
        Due.is("all three", x.leaders(), 3);
    }

    /** Promise 17: "These points are ordered by descending y, and by ascending x if these are equal" */
    private static void leadersInOrder() {
        int[][] cells = {{15, 50}, {14, 50}, {16, 50}, {15, 51}, {29, 49}, {10, 49}, {10, 69}, {29, 69}};
        int[] due = {6, 7, 3, 1, 0, 2, 5, 4};
        LabelPlacer x = with(cells);
        x.setPoint(4, 4, 9);
        Due.is("leaders()", x.leaders(), 8);
        for (int i = 0; i < 8; i++) {
            Due.is("leader(" + i + ", 0)", x.leader(i, 0), due[i]);
        }
        LabelPlacer y = new LabelPlacer();
        y.setWindow(10, 40, 20, 30);
        for (int i = 7; i >= 0; i--) {
            y.addPoint(cells[i][0], cells[i][1], 1, 1, 1 + i, 255);
        }
        Due.is("leaders() of the others", y.leaders(), 8);
        for (int i = 0; i < 8; i++) {
            Due.is("numbers turned: leader(" + i + ", 0)", y.leader(i, 0), 7 - due[i]);
        }
    }

    /** Promise 17: "the one with the index i gets slot i, which lies 2 * i cells below the highest row of the window" */
    private static void slotsFromTheHighestRow() {
        LabelPlacer x = with(new int[][] {{10, 40}, {11, 40}, {12, 40}, {13, 40}});
        x.leaders();
        for (int i = 0; i < 4; i++) {
            Due.is("slot " + i, x.leader(i, 1), 69 - 2 * i);
        }
        LabelPlacer y = new LabelPlacer();
        y.setWindow(100, 100, 100, 100);
        y.addPoint(199, 100, 1, 1, 1, 1);
        y.leaders();
        leaderIs("the last row of the map", y, 0, 0, 199, 200, 201 - 199 + 99);
    }

    /** Promise 17: "j is the number of leaders before it, if it goes up (the row of its slot is greater than y)" */
    private static void bendsGoingUp() {
        LabelPlacer x = with(new int[][] {{10, 40}, {11, 40}, {12, 40}, {13, 40}});
        x.leaders();
        for (int i = 0; i < 4; i++) {
            Due.is("leader(" + i + ", 2)", x.leader(i, 2), 30 + i);
        }
        LabelPlacer y = with(new int[][] {{10, 68}});
        y.leaders();
        Due.is("up by one row", y.leader(0, 2), 30);
    }

    /** Promise 17: "otherwise the number of leaders after it" */
    private static void bendsNotGoingUp() {
        LabelPlacer x = with(new int[][] {{10, 69}, {11, 69}, {12, 69}, {13, 69}});
        x.leaders();
        for (int i = 0; i < 4; i++) {
            Due.is("leader(" + i + ", 2)", x.leader(i, 2), 30 + 3 - i);
        }
    }

    /** The same: those before it and after it count, whether they go up or not. */
    private static void bendsOfBothKinds() {
        LabelPlacer x = with(new int[][] {{10, 69}, {10, 66}, {10, 65}, {10, 64}, {10, 40}});
        // Slots 69, 67, 65, 63 and 61: the second goes up, the fourth goes down, the last goes up.
        x.leaders();
        int[] due = {4, 1, 2, 1, 4};
        for (int i = 0; i < 5; i++) {
            Due.is("leader(" + i + ", 2)", x.leader(i, 2), 30 + due[i]);
        }
    }

    /** The same: "greater than y", so that one in the row of its slot does not go up. */
    private static void bendsInTheRowOfTheSlot() {
        for (int row = 65; row <= 67; row++) {
            // The third of four has slot 65, two before it and one after it.
            LabelPlacer x = with(new int[][] {{10, 69}, {10, 68}, {10, row}, {10, 40}});
            x.leaders();
            Due.is("slot 65 from row " + row, x.leader(2, 2), 30 + 1);
        }
        LabelPlacer x = with(new int[][] {{10, 69}, {10, 68}, {10, 64}, {10, 40}});
        x.leaders();
        Due.is("slot 65 from row 64", x.leader(2, 2), 30 + 2);
    }

    /** Promise 17: "With n leaders, the margin is the column (the greatest x of the window) + 1 + n." */
    private static void margin() {
        LabelPlacer x = with(new int[][] {{29, 69}, {10, 67}, {10, 65}, {10, 63}});
        for (int n = 1; n <= 4; n++) {
            x.hideAll();
            for (int p = n; p < 4; p++) {
                x.show(p, 0);
            }
            Due.is("leaders()", x.leaders(), n);
            Due.is("from the last column to the margin of " + n, x.leader(0, 3), 1 + n);
        }
    }

    /** Promise 17: "The leaders are kept, as they were found, until the next call of leaders() that returns no error." */
    private static void keptUntilTheNext() {
        LabelPlacer x = with(new int[][] {{12, 50}, {14, 60}});
        x.leaders();
        int[][] due = {{1, 69, 30, 32 - 14 + 9}, {0, 67, 31, 32 - 12 + 17}};
        x.fill();
        x.setPoint(0, 2, 9);
        x.addPoint(13, 69, 1, 1, 9, 255);
        x.pan(3, 3);
        x.push();
        x.hideAll();
        for (int i = 0; i < 2; i++) {
            leaderIs("after many calls", x, i, due[i]);
        }
        Due.is("count(10)", x.count(10), 2);
        x.removePoint(2);
        x.removePoint(0);
        x.setWindow(0, 0, 10, 10);
        for (int i = 0; i < 2; i++) {
            leaderIs("without points", x, i, due[i]);
        }
        Due.is("the next", x.leaders(), 0);
        leaderIs("after the next", x, 0, NONE, NONE, NONE, NONE);
    }

    /** The same: slot, bend and margin are those of the window in which they were found. */
    private static void keptInAnotherWindow() {
        int[][] windows = {{0, 0, 100, 100}, {10, 10, 60, 40}, {100, 100, 10, 10}};
        for (int[] w : windows) {
            LabelPlacer x = new LabelPlacer();
            x.addPoint(10, 10, 1, 1, 1, 1);
            x.leaders();
            x.setWindow(w[0], w[1], w[2], w[3]);
            leaderIs("in the window from " + w[0] + ", " + w[1], x, 0, 0, 39, 60, 61 - 10 + 29);
        }
    }

    /** The same: a call of leaders() that returns an error keeps them. */
    private static void keptThroughErrors() {
        LabelPlacer x = new LabelPlacer();
        x.setWindow(0, 0, 10, 10);
        for (int i = 0; i < 5; i++) {
            x.addPoint(i, 5, 1, 1, 1, 1);
        }
        Due.is("five", x.leaders(), 5);
        x.addPoint(9, 9, 1, 1, 1, 1);
        Due.is("six", x.leaders(), STATE);
        Due.is("count(10)", x.count(10), 5);
        for (int i = 0; i < 5; i++) {
            Due.is("leader(" + i + ", 0)", x.leader(i, 0), i);
            Due.is("leader(" + i + ", 1)", x.leader(i, 1), 9 - 2 * i);
        }
        x.removePoint(0);
        Due.is("five others", x.leaders(), 5);
        Due.is("leader(0, 0)", x.leader(0, 0), 4);
    }

    /** The same: "as they were found" is with the numbers that the points had. */
    private static void keptByNumber() {
        LabelPlacer x = with(new int[][] {{12, 60}, {12, 55}, {12, 50}});
        x.leaders();
        x.removePoint(1);
        for (int i = 0; i < 3; i++) {
            Due.is("leader(" + i + ", 0)", x.leader(i, 0), i);
        }
        Due.is("the next", x.leaders(), 2);
        Due.is("its last", x.leader(1, 0), 1);
    }

    private static void noneAreKeptToo() {
        LabelPlacer x = with(new int[][] {{12, 60}});
        x.leaders();
        x.fill();
        Due.is("none", x.leaders(), 0);
        x.hideAll();
        Due.is("count(10)", x.count(10), 0);
        Due.is("leader(0, 0)", x.leader(0, 0), NONE);
    }

    private static LabelPlacer waiting(int points, int rows) {
        LabelPlacer x = new LabelPlacer();
        x.setWindow(0, 7, 20, rows);
        for (int i = 0; i < points; i++) {
            x.addPoint(i, 8, 1, 1, 1, 1);
        }
        return x;
    }

    /** Promise 17: "STATE if a slot would lie below the window", which the lowest row does not. */
    private static void slotsInTheLowestRow() {
        for (int n = 6; n <= 20; n++) {
            LabelPlacer x = waiting(n, 2 * n - 1);
            Due.is(n + " in " + (2 * n - 1) + " rows", x.leaders(), n);
            Due.is("the last slot", x.leader(n - 1, 1), 7);
        }
        LabelPlacer x = waiting(5, 10);
        Due.is("five in ten rows", x.leaders(), 5);
        Due.is("the last slot", x.leader(4, 1), 8);
    }

    private static void slotsBelowTheWindow() {
        for (int n = 6; n <= 20; n++) {
            LabelPlacer x = waiting(n, 2 * n - 2);
            Due.is(n + " in " + (2 * n - 2) + " rows", x.leaders(), STATE);
            Due.is("count(10)", x.count(10), 0);
        }
    }

    /** Promise 18: "BAD if leader is negative", "NONE if there are not so many leaders" */
    private static void leaderNumbers() {
        LabelPlacer x = with(new int[][] {{12, 60}, {12, 55}});
        for (int i : new int[] {MIN, -2, -1}) {
            Due.is("leader(" + i + ", 0) of none", x.leader(i, 0), BAD);
        }
        for (int i : new int[] {0, 1, 19, 20, MAX}) {
            Due.is("leader(" + i + ", 0) of none", x.leader(i, 0), NONE);
        }
        x.leaders();
        for (int what = 0; what <= 3; what++) {
            Due.holds("leader(0, " + what + ")", x.leader(0, what) >= 0);
            Due.holds("leader(1, " + what + ")", x.leader(1, what) >= 0);
            for (int i : new int[] {2, 3, 19, 20, MAX}) {
                Due.is("leader(" + i + ", " + what + ")", x.leader(i, what), NONE);
            }
            for (int i : new int[] {MIN, -2, -1}) {
                Due.is("leader(" + i + ", " + what + ")", x.leader(i, what), BAD);
            }
        }
    }

    /** Promise 18: "BAD if ... what is out of range" */
    private static void leaderProperties() {
        LabelPlacer x = with(new int[][] {{12, 60}});
        for (int what : new int[] {MIN, -1, 4, 5, MAX}) {
            Due.is("leader(0, " + what + ") of none", x.leader(0, what), BAD);
        }
        x.leaders();
        for (int what : new int[] {MIN, -1, 4, 5, MAX}) {
            Due.is("leader(0, " + what + ")", x.leader(0, what), BAD);
            Due.is("leader(1, " + what + ")", x.leader(1, what), BAD);
            Due.is("leader(-1, " + what + ")", x.leader(-1, what), BAD);
        }
        leaderIs("its properties", x, 0, 0, 69, 30, 31 - 12 + 9);
    }

    /** Promise 18: "3: its length, the difference of the columns ..., plus that of the rows of the slot and the point" */
    private static void lengthOfLeaders() {
        LabelPlacer x = with(new int[][] {{10, 69}, {29, 69}, {29, 68}, {29, 63}, {10, 40}});
        // Slots 69, 67, 65, 63 and 61; the margin is column 35.
        x.leaders();
        int[] due = {25, 6 + 2, 6 + 3, 6, 25 + 21};
        for (int i = 0; i < 5; i++) {
            Due.is("leader(" + i + ", 3)", x.leader(i, 3), due[i]);
        }
    }
}
