/** Promises 17 and 18: leaders, leader. */
public final class LeadersTest {
    private static final int MIN = Integer.MIN_VALUE, MAX = Integer.MAX_VALUE, NONE = LabelPlacer.NONE;

    public static void main(String[] args) {
        leadersInOrder();
        leadersInEitherOrder();
        leadersAtTheirSlot();
        leadersOfPointsWithoutLabel();
        leadersAreKept();
        leadersNeedSlots();
        leaderRanges();
        Due.end();
    }

    private static void leaderIs(LabelPlacer x, int leader, int... due) {
        for (int what = 0; what < due.length; what++) {
            Due.is("leader(" + leader + ", " + what + ")", x.leader(leader, what), due[what]);
        }
    }

    private static void leadersInOrder() {
        LabelPlacer x = new LabelPlacer();
        x.setWindow(10, 5, 20, 11);
        // The greatest x is 29, the highest row 15: slots 15, 13, 11, 9; the margin is 34.
        x.addPoint(12, 6, 1, 1, 9, 1);
        x.addPoint(20, 15, 1, 1, 1, 1);
        x.addPoint(15, 13, 1, 1, 1, 1);
        x.addPoint(14, 13, 1, 1, 1, 1);
        Due.is("leaders()", x.leaders(), 4);
        leaderIs(x, 0, 1, 15, 30 + 3, 34 - 20);
        leaderIs(x, 1, 3, 13, 30 + 2, 34 - 14);
        leaderIs(x, 2, 2, 11, 30 + 1, 34 - 15 + 2);
        leaderIs(x, 3, 0, 9, 30 + 3, 34 - 12 + 3);
        leaderIs(x, 4, NONE, NONE, NONE, NONE);
        Due.is("count(10)", x.count(10), 4);
    }

    private static void leadersInEitherOrder() {
        int[][] cells = {{5, 5}, {6, 5}, {7, 5}, {4, 6}};
        for (int turn = 0; turn < 4; turn++) {
            LabelPlacer x = new LabelPlacer();
            for (int i = 0; i < 4; i++) {
                x.addPoint(cells[(i + turn) % 4][0], cells[(i + turn) % 4][1], 1, 1, 1, 255);
            }
            Due.is("leaders()", x.leaders(), 4);
            int[] due = {3, 0, 1, 2};
            for (int i = 0; i < 4; i++) {
                Due.is("turn " + turn + ": leader(" + i + ", 0)", x.leader(i, 0), (due[i] - turn + 4) % 4);
            }
        }
    }

    private static void leadersAtTheirSlot() {
        LabelPlacer x = new LabelPlacer();
        // The highest row is 39: a leader in the row of its slot does not go up.
        x.addPoint(3, 39, 1, 1, 1, 255);
        Due.is("leaders()", x.leaders(), 1);
        leaderIs(x, 0, 0, 39, 60, 61 - 3);
        x.addPoint(5, 38, 1, 1, 1, 255);
        x.addPoint(5, 34, 1, 1, 1, 255);
        Due.is("leaders() with three", x.leaders(), 3);
        leaderIs(x, 0, 0, 39, 62, 63 - 3);
        leaderIs(x, 1, 1, 37, 61, 63 - 5 + 1);
        leaderIs(x, 2, 2, 35, 62, 63 - 5 + 1);
    }

    private static void leadersOfPointsWithoutLabel() {
        LabelPlacer x = new LabelPlacer();
        x.addPoint(10, 10, 4, 1, 1, 255);
        x.addPoint(10, 20, 4, 1, 1, 255);
        x.addPoint(110, 30, 4, 1, 1, 255);
        x.show(1, 0);
        Due.is("leaders()", x.leaders(), 1);
        leaderIs(x, 0, 0, 39, 60, 61 - 10 + 29);
        x.show(0, 0);
        Due.is("none", x.leaders(), 0);
        Due.is("none is kept", x.leader(0, 0), NONE);
        Due.is("count(10)", x.count(10), 0);
    }

    private static void leadersAreKept() {
        LabelPlacer x = new LabelPlacer();
        x.addPoint(30, 20, 4, 1, 1, 255);
        x.addPoint(10, 10, 4, 1, 1, 255);
        x.leaders();
        int[] due = {1, 37, 61, 62 - 10 + 27};
        leaderIs(x, 1, due);
        x.removePoint(0);
        leaderIs(x, 1, due);
        x.fill();
        leaderIs(x, 1, due);
        x.setWindow(50, 50, 20, 20);
        leaderIs(x, 1, due);
        x.removePoint(0);
        leaderIs(x, 1, due);
        Due.is("count(10)", x.count(10), 2);
        Due.is("leaders()", x.leaders(), 0);
        Due.is("not kept any more", x.leader(1, 0), NONE);
    }

    private static void leadersNeedSlots() {
        LabelPlacer x = new LabelPlacer();
        x.setWindow(0, 0, 10, 11);
        for (int i = 0; i < 6; i++) {
            x.addPoint(i, i, 1, 1, 1, 255);
        }
        Due.is("six slots in eleven rows", x.leaders(), 6);
        Due.is("the last row", x.leader(5, 1), 0);
        x.addPoint(8, 8, 1, 1, 1, 255);
        Due.is("a seventh", x.leaders(), LabelPlacer.STATE);
        Due.is("the others are kept", x.count(10), 6);
        Due.is("as they were", x.leader(5, 0), 0);
        Due.is("the first too", x.leader(0, 0), 5);
        x.setWindow(0, 0, 10, 12);
        Due.is("twelve rows", x.leaders(), LabelPlacer.STATE);
        x.setWindow(0, 0, 10, 13);
        Due.is("thirteen rows", x.leaders(), 7);
        x.setWindow(0, 0, 10, 10);
        Due.is("ten rows", x.leaders(), LabelPlacer.STATE);
        x.show(6, 1);
        x.show(5, 1);
        Due.is("five in ten rows", x.leaders(), 5);
        Due.is("the row above the last", x.leader(4, 1), 1);
    }

    private static void leaderRanges() {
        LabelPlacer x = new LabelPlacer();
        for (int what : new int[] {-1, 4, MIN, MAX}) {
            Due.is("leader(0, " + what + ")", x.leader(0, what), LabelPlacer.BAD);
        }
        Due.is("leader(-1, 0)", x.leader(-1, 0), LabelPlacer.BAD);
        Due.is("leader(MIN, 0)", x.leader(MIN, 0), LabelPlacer.BAD);
        Due.is("leader(MAX, 3)", x.leader(MAX, 3), NONE);
        Due.is("leader(20, 3)", x.leader(20, 3), NONE);
        Due.is("leader(MAX, 4)", x.leader(MAX, 4), LabelPlacer.BAD);
    }
}
