/** Promises 11 to 16: fill, improve, push, show, hideAll, greatest. */
public final class PlacingTest {
    private static final int MIN = Integer.MIN_VALUE, MAX = Integer.MAX_VALUE, NONE = LabelPlacer.NONE;

    public static void main(String[] args) {
        fillInOrder();
        fillKeepsLabels();
        improveMovesOne();
        improveTakesTheFirstPlace();
        improveNeedsRoom();
        improveMovesOnlyOne();
        improveInOrder();
        pushByPriority();
        pushTakesTheFirstPlace();
        pushAgainAndAgain();
        showAnswers();
        showErrors();
        hideAllAnswers();
        greatestSums();
        greatestLimit();
        Due.end();
    }

    private static void sidesAre(String when, LabelPlacer x, int... due) {
        for (int p = 0; p < due.length; p++) {
            Due.is(when + ": point(" + p + ", 7)", x.point(p, 7), due[p]);
        }
    }

    private static void fillInOrder() {
        LabelPlacer x = new LabelPlacer();
        x.addPoint(20, 20, 4, 1, 3, 1);
        x.addPoint(22, 20, 4, 1, 3, 1);
        x.addPoint(24, 20, 4, 1, 3, 1);
        x.addPoint(100, 20, 4, 1, 9, 255);
        Due.is("equal priorities: fill()", x.fill(), 2);
        sidesAre("ascending numbers", x, 0, NONE, 0, NONE);
        Due.is("fill() again", x.fill(), 0);
        x.hideAll();
        x.setPoint(1, 4, 4);
        Due.is("fill()", x.fill(), 1);
        sidesAre("descending priorities", x, NONE, 0, NONE, NONE);
        x.setPoint(0, 5, 129);
        Due.is("fill() with another side", x.fill(), 1);
        sidesAre("the least side that is free", x, 7, 0, NONE, NONE);
    }

    private static void fillKeepsLabels() {
        LabelPlacer x = new LabelPlacer();
        x.addPoint(20, 20, 4, 1, 9, 255);
        x.addPoint(22, 20, 4, 1, 1, 255);
        x.show(1, 1);
        Due.is("fill()", x.fill(), 1);
        sidesAre("a label that is shown stays", x, 1 + 1, 1);
    }

    private static void improveMovesOne() {
        LabelPlacer x = new LabelPlacer();
        x.addPoint(20, 20, 4, 1, 9, 1 + 32 + 128);
        x.addPoint(22, 20, 4, 1, 1, 1);
        x.fill();
        sidesAre("before", x, 0, NONE);
        Due.is("improve()", x.improve(), 1);
        sidesAre("the label moved to the least side", x, 5, 0);
        Due.is("improve() again", x.improve(), 0);
    }

    private static void improveTakesTheFirstPlace() {
        LabelPlacer x = new LabelPlacer();
        x.addPoint(20, 20, 4, 1, 9, 1 + 128);
        x.addPoint(22, 20, 4, 1, 1, 1 + 4);
        x.show(0, 0);
        Due.is("improve()", x.improve(), 1);
        sidesAre("a move for side 0, though side 2 is free", x, 7, 0);
        x.hideAll();
        x.setPoint(0, 5, 1);
        x.show(0, 0);
        Due.is("improve() where it cannot move", x.improve(), 1);
        sidesAre("the free side", x, 0, 2);
        x.addPoint(50, 30, 4, 1, 1, 255);
        Due.is("improve() beside nothing", x.improve(), 1);
        sidesAre("simply gets it", x, 0, 2, 0);
    }

    private static void improveNeedsRoom() {
        LabelPlacer x = new LabelPlacer();
        x.addPoint(20, 20, 4, 1, 9, 1 + 64);
        x.addPoint(22, 20, 4, 1, 1, 2 + 64);
        // Point 0 on 0 covers 21..24 of row 21, on 6 covers 19..22; point 1 on 1 covers 18..21, on 6 covers 21..24.
        x.show(0, 0);
        Due.is("its other place clashes with this one", x.improve(), 0);
        sidesAre("nothing moved", x, 0, NONE);
        x.setPoint(0, 5, 1 + 128);
        x.addPoint(16, 18, 4, 1, 5, 1);
        // Point 2 on 0 covers 17..20 of row 19, where point 0 on 7 covers 19..22.
        x.show(2, 0);
        Due.is("its other place clashes with a label", x.improve(), 0);
        sidesAre("nothing moved", x, 0, NONE, 0);
        x.show(2, NONE);
        x.setPoint(2, 5, 2);
        Due.is("with room", x.improve(), 2);
        sidesAre("moved", x, 7, 1, 1);
    }

    private static void improveMovesOnlyOne() {
        LabelPlacer x = new LabelPlacer();
        x.addPoint(20, 20, 2, 1, 9, 255);
        x.addPoint(25, 20, 2, 1, 9, 255);
        x.addPoint(22, 20, 5, 1, 1, 64);
        // Point 2 on 6 covers 20..24 of row 21.
        x.show(0, 0);
        x.show(1, 1);
        Due.is("two labels in the way", x.improve(), 0);
        sidesAre("nothing moved", x, 0, 1, NONE);
        x.show(1, 3);
        Due.is("one label in the way", x.improve(), 1);
        sidesAre("moved", x, 1, 3, 6);
        LabelPlacer y = new LabelPlacer();
        y.addPoint(20, 20, 4, 1, 9, 1 + 128);
        y.addPoint(22, 20, 4, 1, 1, 128);
        y.show(0, 7);
        Due.is("side 0 is free for it", y.improve(), 1);
        sidesAre("moved to side 0", y, 0, 7);
    }

    private static void improveInOrder() {
        LabelPlacer x = new LabelPlacer();
        x.addPoint(20, 20, 4, 1, 2, 1);
        x.addPoint(22, 20, 4, 1, 3, 1);
        x.addPoint(24, 20, 4, 1, 3, 1);
        Due.is("improve()", x.improve(), 1);
        sidesAre("by priorities, then numbers", x, NONE, 0, NONE);
        LabelPlacer y = new LabelPlacer();
        y.addPoint(150, 20, 4, 1, 2, 255);
        Due.is("a point that is not visible", y.improve(), 0);
    }

    private static void pushByPriority() {
        LabelPlacer x = new LabelPlacer();
        x.addPoint(20, 20, 3, 1, 4, 1);
        x.addPoint(24, 20, 3, 1, 5, 1);
        x.addPoint(22, 20, 4, 1, 5, 1);
        // Row 21: point 0 covers 21..23, point 1 covers 25..27, point 2 covers 23..26.
        x.show(0, 0);
        x.show(1, 0);
        Due.is("count(12)", x.count(12), 0);
        Due.is("an equal priority is not pushed away", x.push(), 0);
        sidesAre("nothing changed", x, 0, 0, NONE);
        x.setPoint(2, 4, 6);
        Due.is("count(12) then", x.count(12), 1);
        Due.is("both are lower", x.push(), 1);
        sidesAre("both disappear", x, NONE, NONE, 0);
        x.setPoint(2, 4, 5);
        x.setPoint(0, 4, 5);
        Due.is("equal ones do not push back", x.push(), 0);
        x.setPoint(2, 4, 1);
        Due.is("lower ones do", x.push(), 2);
        sidesAre("pushed back", x, 0, 0, NONE);
    }

    private static void pushTakesTheFirstPlace() {
        LabelPlacer x = new LabelPlacer();
        x.addPoint(20, 20, 4, 1, 4, 1);
        x.addPoint(22, 20, 4, 1, 5, 1 + 4);
        x.show(0, 0);
        Due.is("push()", x.push(), 1);
        sidesAre("side 0, though side 2 is free", x, NONE, 0);
        x.hideAll();
        Due.is("push() onto free places", x.push(), 1);
        sidesAre("the first in the order of points", x, NONE, 0);
        x.setPoint(0, 5, 255);
        Due.is("push() beside it", x.push(), 1);
        sidesAre("without pushing", x, 1, 0);
        x.setWindow(100, 0, 60, 40);
        Due.is("push() of points that are not visible", x.push(), 0);
    }

    private static void pushAgainAndAgain() {
        LabelPlacer x = new LabelPlacer();
        x.addPoint(20, 20, 4, 1, 3, 1 + 128);
        x.addPoint(22, 20, 4, 1, 4, 1 + 128);
        x.addPoint(24, 20, 4, 1, 5, 1);
        // Point 2 pushes point 1 from row 21, which pushes point 0 from row 19, which goes to row 21.
        x.show(0, 7);
        x.show(1, 0);
        Due.is("push()", x.push(), 3);
        sidesAre("a chain", x, 0, 7, 0);
        Due.is("count(12)", x.count(12), 0);
        Due.is("push() again", x.push(), 0);
    }

    private static void showAnswers() {
        LabelPlacer x = new LabelPlacer();
        x.addPoint(20, 20, 4, 1, 3, 1 + 2);
        x.addPoint(22, 20, 4, 1, 4, 1 + 4);
        Due.is("show(0, 0)", x.show(0, 0), NONE);
        Due.is("again", x.show(0, 0), 0);
        Due.is("on another side", x.show(0, 1), 0);
        sidesAre("moved", x, 1, NONE);
        Due.is("hidden", x.show(0, NONE), 1);
        sidesAre("hidden", x, NONE, NONE);
        Due.is("hidden again", x.show(0, NONE), NONE);
        x.show(0, 0);
        Due.is("in the way", x.show(1, 0), LabelPlacer.STATE);
        sidesAre("nothing changed", x, 0, NONE);
        Due.is("beside", x.show(1, 2), NONE);
        Due.is("in the way from there", x.show(1, 0), LabelPlacer.STATE);
        sidesAre("it stays where it was", x, 0, 2);
        Due.is("a side that is not in the set", x.show(0, 2), LabelPlacer.STATE);
    }

    private static void showErrors() {
        LabelPlacer x = new LabelPlacer();
        Due.is("no point", x.show(0, 0), LabelPlacer.BAD);
        x.addPoint(20, 20, 4, 1, 3, 1);
        x.addPoint(120, 20, 4, 1, 3, 255);
        for (int p : new int[] {-1, 2, 20, MIN, MAX}) {
            Due.is("show(" + p + ", 0)", x.show(p, 0), LabelPlacer.BAD);
            Due.is("show(" + p + ", NONE)", x.show(p, NONE), LabelPlacer.BAD);
        }
        for (int side : new int[] {-2, 8, MIN, MAX}) {
            Due.is("show(0, " + side + ")", x.show(0, side), LabelPlacer.BAD);
        }
        Due.is("not visible", x.show(1, 0), LabelPlacer.STATE);
        Due.is("hiding a point that is not visible", x.show(1, NONE), NONE);
    }

    private static void hideAllAnswers() {
        LabelPlacer x = new LabelPlacer();
        Due.is("hideAll()", x.hideAll(), 0);
        x.addPoint(20, 20, 4, 1, 3, 255);
        x.addPoint(40, 20, 4, 1, 4, 255);
        x.addPoint(120, 20, 4, 1, 4, 255);
        x.fill();
        Due.is("hideAll() with two", x.hideAll(), 2);
        sidesAre("none is shown", x, NONE, NONE, NONE);
        Due.is("hideAll() again", x.hideAll(), 0);
    }

    private static void greatestSums() {
        LabelPlacer x = new LabelPlacer();
        Due.is("without points", x.greatest(), 0);
        x.addPoint(20, 20, 3, 1, 4, 1);
        x.addPoint(24, 20, 3, 1, 5, 1);
        x.addPoint(22, 20, 4, 1, 8, 1);
        Due.is("two lower ones", x.greatest(), 9);
        x.setPoint(2, 4, 9);
        Due.is("as good", x.greatest(), 9);
        x.setPoint(0, 4, 3);
        Due.is("one greater one", x.greatest(), 9);
        x.show(0, 0);
        Due.is("what is shown does not matter", x.greatest(), 9);
        Due.is("and stays", x.point(0, 7), 0);
        x.setPoint(2, 5, 5);
        Due.is("all together", x.greatest(), 17);
        x.addPoint(120, 20, 3, 1, 9, 255);
        Due.is("a point without places adds nothing", x.greatest(), 17);
        LabelPlacer y = new LabelPlacer();
        y.addPoint(20, 20, 4, 1, 7, 128);
        y.addPoint(22, 20, 4, 1, 5, 128);
        y.addPoint(24, 20, 4, 1, 4, 64 + 128);
        Due.is("without side 0", y.greatest(), 11);
        y.setPoint(2, 5, 128);
        Due.is("a chain of three", y.greatest(), 11);
        y.setPoint(1, 4, 9);
        Due.is("its ends", y.greatest(), 11);
        y.setPoint(2, 4, 1);
        Due.is("its middle", y.greatest(), 9);
    }

    private static void greatestLimit() {
        LabelPlacer x = new LabelPlacer();
        for (int i = 0; i < 6; i++) {
            x.addPoint(10 + 6 * i, 20, 4, 1, 9, 255);
        }
        x.addPoint(120, 20, 4, 1, 1, 255);
        Due.is("six with places", x.greatest(), 54);
        x.addPoint(10, 30, 4, 1, 1, 255);
        Due.is("seven with places", x.greatest(), LabelPlacer.STATE);
        x.setWindow(0, 0, 60, 21);
        Due.is("six again", x.greatest(), 54);
    }
}
