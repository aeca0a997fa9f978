import java.util.Random;

/** The boundary cases of promises 11 to 16, sentence by sentence: fill, improve, push, show, hideAll, greatest. */
public final class PlacingEdgesTest {
    private static final int NONE = LabelPlacer.NONE, BAD = LabelPlacer.BAD, STATE = LabelPlacer.STATE;
    private static final int MIN = Integer.MIN_VALUE, MAX = Integer.MAX_VALUE;

    public static void main(String[] args) {
        fillOfTwentyAndNone();
        fillVisibleOnes();
        fillLeastSide();
        fillBesideLabels();
        fillWithoutPlaces();
        fillMovesNothing();
        improveOfTwentyAndNone();
        improveJustOneLabel();
        improveToAnotherPlace();
        improveToTheLeastSide();
        improveWhereNoneClashes();
        improveEndsWithTheFirst();
        improveInTheirOrder();
        improveGoesThroughOnce();
        improveMovesOneLabel();
        improveOfEqualsAndLower();
        pushOfTwentyAndNone();
        pushOfLowerOnes();
        pushAwayAll();
        pushFirstPointAndPlace();
        pushOneAfterAnother();
        pushEnds();
        showSides();
        showPrevious();
        showWhereItIsNoPlace();
        showInTheWay();
        showOfWrongPoints();
        hideAllOfTwentyAndNone();
        greatestOfNone();
        greatestOfSix();
        greatestOfSeven();
        greatestOfPointsWithoutPlaces();
        greatestTogether();
        greatestWithoutTheFirstSide();
        greatestOfOneLabelEach();
        greatestWhateverIsShown();
        greatestOfACrowd();
        greatestOfManyCrowds();
        Due.end();
    }

    private static void sidesAre(String when, LabelPlacer x, int... due) {
        for (int p = 0; p < due.length; p++) {
            Due.is(when + ": point(" + p + ", 7)", x.point(p, 7), due[p]);
        }
    }

    /** Points in row 20 that may only stand right above, 4 cells wide and 1 high, in columns as told. */
    private static LabelPlacer row(int priority, int sides, int... columns) {
        LabelPlacer x = new LabelPlacer();
        for (int column : columns) {
            x.addPoint(column, 20, 4, 1, priority, sides);
        }
        return x;
    }

    /** Promise 11: "Returns how many labels were added." */
    private static void fillOfTwentyAndNone() {
        Due.is("without points", new LabelPlacer().fill(), 0);
        LabelPlacer x = Scene.apart(20, 5);
        Due.is("twenty", x.fill(), 20);
        Due.is("none is left", x.fill(), 0);
        x.show(19, NONE);
        Due.is("the last one", x.fill(), 1);
    }

    /** Promise 11: "all visible points without one" */
    private static void fillVisibleOnes() {
        LabelPlacer x = row(5, 255, 59, 60, 0);
        x.setPoint(1, 4, 9);
        Due.is("fill()", x.fill(), 2);
        sidesAre("visible ones", x, 1, NONE, 0);
        x.show(0, 3);
        Due.is("fill() again", x.fill(), 0);
        sidesAre("those with one keep it", x, 3, NONE, 0);
    }

    /** Promise 11: "on the least side that makes a place" */
    private static void fillLeastSide() {
        for (int sides = 1; sides <= 255; sides++) {
            LabelPlacer x = row(5, sides, 30);
            Due.is("fill() of the set " + sides, x.fill(), 1);
            Due.is("the least side of the set " + sides, x.point(0, 7), Integer.numberOfTrailingZeros(sides));
        }
    }

    /** Promise 11: "that does not clash with a label that is shown" */
    private static void fillBesideLabels() {
        LabelPlacer x = row(5, 1, 20, 23, 24);
        // Row 21: columns 21 to 24, 24 to 27 and 25 to 28.
        x.show(0, 0);
        Due.is("one column in common, and none", x.fill(), 1);
        sidesAre("beside", x, 0, NONE, 0);
    }

    /** Promise 11: "if there is one" */
    private static void fillWithoutPlaces() {
        LabelPlacer x = row(5, 1, 59, 58, 55);
        Due.is("two would leave the window", x.fill(), 1);
        sidesAre("the third", x, NONE, NONE, 0);
    }

    /** The same: labels that are in the way neither move nor disappear, whatever their priorities. */
    private static void fillMovesNothing() {
        LabelPlacer x = row(5, 1, 20, 22);
        x.setPoint(0, 5, 255);
        x.setPoint(1, 4, 9);
        x.show(0, 0);
        Due.is("fill()", x.fill(), 0);
        sidesAre("the label stays", x, 0, NONE);
    }

    /** Promise 12: "Returns how many points got a label." */
    private static void improveOfTwentyAndNone() {
        Due.is("without points", new LabelPlacer().improve(), 0);
        LabelPlacer x = Scene.apart(20, 5);
        Due.is("twenty", x.improve(), 20);
        Due.is("none is left", x.improve(), 0);
        LabelPlacer y = row(5, 255, 60, 61);
        Due.is("without visible points", y.improve(), 0);
    }

    /** Promise 12: "if a place clashes with just one label that is shown" */
    private static void improveJustOneLabel() {
        LabelPlacer x = new LabelPlacer();
        x.addPoint(20, 20, 2, 1, 5, 255);
        x.addPoint(26, 20, 2, 1, 5, 255);
        x.addPoint(23, 20, 4, 1, 5, 64);
        // Row 21: columns 21 and 22, 24 and 25; point 2 would cover 22 to 25.
        x.show(0, 0);
        x.show(1, 1);
        Due.is("two", x.improve(), 0);
        sidesAre("two", x, 0, 1, NONE);
        x.show(1, 0);
        Due.is("one", x.improve(), 1);
        sidesAre("one", x, 1, 0, 6);
    }

    /** Promise 12: "another place that clashes neither with this place nor with a label that is shown (of another point)" */
    private static void improveToAnotherPlace() {
        LabelPlacer x = row(5, 1, 20, 22);
        x.show(0, 0);
        Due.is("it has no other place", x.improve(), 0);
        x.setPoint(0, 5, 1 + 64);
        // Row 21: point 0 covers 21 to 24 or 19 to 22, point 1 covers 23 to 26.
        Due.is("one that clashes with the label itself alone", x.improve(), 1);
        sidesAre("moved by two columns", x, 6, 0);
        x.show(1, NONE);
        x.show(0, 0);
        x.setPoint(1, 5, 64);
        // Point 1 covers 21 to 24.
        Due.is("one that clashes with this place", x.improve(), 0);
        sidesAre("not moved", x, 0, NONE);
        x.setPoint(0, 5, 1 + 128);
        x.addPoint(19, 18, 1, 1, 5, 1);
        x.show(2, 0);
        // Row 19: point 2 covers 20, point 0 on side 7 would cover 19 to 22.
        Due.is("one that clashes with another label", x.improve(), 0);
        sidesAre("not moved", x, 0, NONE, 0);
        x.show(2, NONE);
        x.setPoint(2, 5, 2);
        Due.is("one that is free", x.improve(), 2);
        sidesAre("moved", x, 7, 6, 1);
    }

    /** Promise 12: "the label moves to the least such side" */
    private static void improveToTheLeastSide() {
        for (int least = 1; least < 8; least++) {
            LabelPlacer x = row(5, 1, 20, 22);
            int sides = 1;
            for (int side = least; side < 8; side++) {
                sides |= 1 << side;
            }
            x.setPoint(0, 5, sides);
            x.show(0, 0);
            // On side 4 it would cover point 1.
            int due = least == 4 ? 5 : least;
            Due.is("improve() from side " + least + " on", x.improve(), 1);
            sidesAre("from side " + least + " on", x, due, 0);
        }
        LabelPlacer x = row(5, 255, 20, 22);
        x.setPoint(1, 5, 128);
        x.show(0, 7);
        Due.is("improve() below", x.improve(), 1);
        sidesAre("the least of all sides", x, 0, 7);
    }

    /** Promise 12: "if a place clashes with none, the point simply gets it" */
    private static void improveWhereNoneClashes() {
        LabelPlacer x = row(5, 1, 20, 24);
        x.setPoint(0, 5, 255);
        x.show(0, 0);
        Due.is("beside a label that could move", x.improve(), 1);
        sidesAre("which stays", x, 0, 0);
        LabelPlacer y = row(5, 255, 17, 22);
        y.setPoint(1, 5, 1 + 2);
        y.show(0, 0);
        // Row 21: columns 18 to 21, where side 1 of point 1 would be, and 23 to 26.
        Due.is("before a place for which a label could move", y.improve(), 1);
        sidesAre("which stays too", y, 0, 0);
    }

    /** Promise 12: "The first place that succeeds ends it for this point." */
    private static void improveEndsWithTheFirst() {
        LabelPlacer x = row(5, 1 + 2 + 128, 20, 22);
        x.setPoint(1, 5, 1 + 4);
        x.show(0, 0);
        Due.is("a label moves for side 0, though side 2 is free", x.improve(), 1);
        sidesAre("the first", x, 1, 0);
        x.hideAll();
        x.setPoint(0, 5, 1);
        x.setPoint(1, 5, 1 + 4 + 128);
        x.show(0, 0);
        Due.is("it cannot move: sides 2 and 7 are free", x.improve(), 1);
        sidesAre("the first that succeeds", x, 0, 2);
    }

    /** Promise 12: "The visible points without a label are gone through in their order." */
    private static void improveInTheirOrder() {
        LabelPlacer x = row(5, 1, 20, 22, 24);
        Due.is("equal priorities", x.improve(), 2);
        sidesAre("equal priorities", x, 0, NONE, 0);
        x.hideAll();
        x.setPoint(1, 4, 6);
        Due.is("a greater one", x.improve(), 1);
        sidesAre("a greater one", x, NONE, 0, NONE);
    }

    /** The same: once, also if a label that moved has made room for one that had none before. */
    private static void improveGoesThroughOnce() {
        LabelPlacer x = new LabelPlacer();
        x.addPoint(20, 20, 2, 2, 5, 255);
        x.addPoint(26, 20, 2, 1, 5, 255);
        x.addPoint(23, 20, 4, 1, 6, 64);
        x.addPoint(20, 23, 2, 1, 5, 4);
        x.show(0, 0);
        x.show(1, 1);
        // Row 21: columns 21 and 22, and 24 and 25; point 2 would cover 22 to 25. Row 22: points 0 and 3 in 21 and 22.
        Due.is("two in the way of the first, one in the way of the second", x.improve(), 1);
        sidesAre("the second got its label", x, 1, 1, NONE, 2);
        Due.is("now one is in the way of the first", x.improve(), 1);
        sidesAre("the first got its label", x, 1, 0, 6, 2);
    }

    /** Promise 12: "the label moves": no other one moves for it, and none disappears. */
    private static void improveMovesOneLabel() {
        LabelPlacer x = row(5, 1, 20, 22);
        x.setPoint(1, 4, 9);
        x.show(0, 0);
        Due.is("a lower one that has no other place", x.improve(), 0);
        sidesAre("stays", x, 0, NONE);
        x.setPoint(0, 5, 1 + 128);
        x.addPoint(19, 18, 1, 1, 5, 255);
        x.show(2, 0);
        // Row 19: point 2 covers 20, point 0 on side 7 would cover 19 to 22.
        Due.is("one whose other place another one would have to leave", x.improve(), 0);
        sidesAre("both stay", x, 0, NONE, 0);
    }

    /** Priorities do not matter for who moves. */
    private static void improveOfEqualsAndLower() {
        for (int priority : new int[] {1, 5, 9}) {
            LabelPlacer x = row(5, 1, 20, 22);
            x.setPoint(0, 5, 3);
            x.setPoint(0, 4, priority);
            x.show(0, 0);
            Due.is("a label of priority " + priority, x.improve(), 1);
            sidesAre("moved", x, 1, 0);
        }
    }

    /** Promise 13: "Returns how many times this was done." */
    private static void pushOfTwentyAndNone() {
        Due.is("without points", new LabelPlacer().push(), 0);
        LabelPlacer x = Scene.apart(20, 5);
        Due.is("twenty", x.push(), 20);
        Due.is("none is left", x.push(), 0);
        Due.is("without visible points", row(5, 255, 60, 61).push(), 0);
        Due.is("without places", row(5, 1, 59, 58).push(), 0);
    }

    /** Promise 13: "a place of it all of whose clashing shown labels have lower priorities (also if there are none ...)" */
    private static void pushOfLowerOnes() {
        for (int shown = 1; shown <= 9; shown++) {
            for (int priority = 1; priority <= 9; priority++) {
                LabelPlacer x = row(shown, 1, 20, 22);
                x.setPoint(1, 4, priority);
                x.show(0, 0);
                int due = shown < priority ? 1 : 0;
                Due.is(priority + " against " + shown + ": count(12)", x.count(12), due);
                Due.is(priority + " against " + shown, x.push(), due);
                sidesAre(priority + " against " + shown, x, due == 1 ? NONE : 0, due == 1 ? 0 : NONE);
            }
        }
        LabelPlacer x = row(1, 1, 20, 24);
        x.show(0, 0);
        Due.is("none clash", x.push(), 1);
        sidesAre("none clash", x, 0, 0);
    }

    /** Promise 13: "the clashing labels disappear, and its label is shown there" */
    private static void pushAwayAll() {
        LabelPlacer x = new LabelPlacer();
        x.addPoint(20, 20, 2, 1, 4, 1);
        x.addPoint(23, 20, 2, 1, 4, 1);
        x.addPoint(22, 20, 6, 1, 5, 64);
        x.addPoint(25, 20, 2, 1, 4, 1);
        // Row 21: columns 21 and 22, 24 and 25, 26 and 27; point 2 would cover 20 to 25.
        x.show(0, 0);
        x.show(1, 0);
        x.show(3, 0);
        Due.is("two in the way", x.push(), 1);
        sidesAre("both disappear, the one beside stays", x, NONE, NONE, 6, 0);
        x.hideAll();
        x.setPoint(1, 4, 5);
        x.show(0, 0);
        x.show(1, 0);
        x.show(3, 0);
        Due.is("one of them is equal", x.push(), 0);
        sidesAre("all stay", x, 0, 0, NONE, 0);
    }

    /** Promise 13: "the first such point in the order of points, and its first such place in the order of sides, are taken" */
    private static void pushFirstPointAndPlace() {
        LabelPlacer x = row(5, 1, 20, 22);
        Due.is("equal ones: the first number", x.push(), 1);
        sidesAre("the first number", x, 0, NONE);
        x.hideAll();
        x.setPoint(1, 4, 6);
        Due.is("the greater one", x.push(), 1);
        sidesAre("the greater one", x, NONE, 0);
        x.hideAll();
        x.setPoint(1, 5, 1 + 128);
        x.show(0, 0);
        Due.is("its first side, though side 7 is free", x.push(), 1);
        sidesAre("its first side", x, NONE, 0);
        x.hideAll();
        x.setPoint(0, 4, 6);
        x.show(0, 0);
        Due.is("its first side that can be", x.push(), 1);
        sidesAre("its first side that can be", x, 0, 7);
    }

    /** Promise 13: "as long as there is" such a point */
    private static void pushOneAfterAnother() {
        LabelPlacer x = new LabelPlacer();
        for (int i = 0; i < 9; i++) {
            x.addPoint(20 + 2 * i, 20, 4, 1, 1 + i, 1 + 128);
        }
        // Row 21 and row 19: each point's labels clash with those of the points beside it.
        for (int i = 0; i < 8; i++) {
            x.show(i, i % 2 == 0 ? 7 : 0);
        }
        Due.is("count(12)", x.count(12), 1);
        Due.is("each pushes the one before it away, which pushes then", x.push(), 9);
        sidesAre("all moved", x, 0, 7, 0, 7, 0, 7, 0, 7, 0);
        Due.is("none is left that can", x.count(12), 0);
        Due.is("again", x.push(), 0);
    }

    /** Promise 13: "(It always ends.)" */
    private static void pushEnds() {
        LabelPlacer x = Scene.full();
        for (int p = 19; p >= 0; p--) {
            for (int side = 7; side >= 0 && x.point(p, 7) == NONE; side--) {
                x.show(p, side);
            }
        }
        Due.holds("at most once for each point", x.push() <= 20);
        Due.is("none is left that can", x.count(12), 0);
    }

    /** Promise 14: "the side, or NONE to hide it" */
    private static void showSides() {
        LabelPlacer x = row(5, 255, 30);
        for (int side : new int[] {MIN, -3, -2, 8, 9, MAX}) {
            Due.is("show(0, " + side + ")", x.show(0, side), BAD);
        }
        Due.is("no label yet", x.point(0, 7), NONE);
        int before = NONE;
        for (int side = 0; side < 8; side++) {
            Due.is("show(0, " + side + ")", x.show(0, side), before);
            before = side;
        }
        Due.is("show(0, NONE)", x.show(0, NONE), 7);
        Due.is("hidden", x.point(0, 7), NONE);
    }

    /** Promise 14: "Returns the previous side, or NONE" */
    private static void showPrevious() {
        LabelPlacer x = row(5, 255, 30, 90);
        Due.is("at first", x.show(0, 0), NONE);
        Due.is("on the same side", x.show(0, 0), 0);
        Due.is("on the last side", x.show(0, 7), 0);
        Due.is("hidden", x.show(0, NONE), 7);
        Due.is("hidden again", x.show(0, NONE), NONE);
        Due.is("one that is not visible can be hidden", x.show(1, NONE), NONE);
    }

    /** Promise 14: "STATE if it is no place" */
    private static void showWhereItIsNoPlace() {
        LabelPlacer x = row(5, 1 + 2, 30, 60, 58);
        x.show(0, 1);
        Due.is("a side that is not in its set", x.show(0, 2), STATE);
        Due.is("a point that is not visible", x.show(1, 1), STATE);
        Due.is("a label that would leave the window", x.show(2, 0), STATE);
        x.addPoint(31, 21, 1, 1, 1, 1);
        Due.is("a label that would cover a point", x.show(0, 0), STATE);
        sidesAre("all as before", x, 1, NONE, NONE, NONE);
        Due.is("a place", x.show(2, 1), NONE);
    }

    /** Promise 14: "or clashes with the label of another point that is shown" */
    private static void showInTheWay() {
        LabelPlacer x = row(5, 1 + 64, 20, 23, 24);
        // Row 21: columns 21 to 24, 24 to 27 and 25 to 28, on side 6 two columns less.
        x.show(0, 0);
        Due.is("one column in common", x.show(1, 0), STATE);
        x.setPoint(1, 4, 9);
        Due.is("a greater priority does not help", x.show(1, 0), STATE);
        Due.is("no column in common", x.show(2, 0), NONE);
        Due.is("its own label is not in its way", x.show(0, 6), 0);
        Due.is("the other one still is", x.show(1, 0), STATE);
        x.show(2, NONE);
        Due.is("not any more", x.show(1, 0), NONE);
    }

    /** Promise 14: "BAD" */
    private static void showOfWrongPoints() {
        LabelPlacer x = Scene.apart(20, 5);
        for (int p : new int[] {MIN, -1, 20, 21, MAX}) {
            Due.is("show(" + p + ", 0)", x.show(p, 0), BAD);
            Due.is("show(" + p + ", NONE)", x.show(p, NONE), BAD);
        }
        Due.is("show(19, 7)", x.show(19, 7), NONE);
        Due.is("labels", x.count(4), 1);
    }

    /** Promise 15: "Hides all labels.", "Returns how many were shown." */
    private static void hideAllOfTwentyAndNone() {
        Due.is("without points", new LabelPlacer().hideAll(), 0);
        LabelPlacer x = Scene.apart(20, 5);
        Due.is("without labels", x.hideAll(), 0);
        x.fill();
        Due.is("twenty", x.hideAll(), 20);
        for (int p = 0; p < 20; p++) {
            Due.is("point(" + p + ", 7)", x.point(p, 7), NONE);
        }
        Due.is("again", x.hideAll(), 0);
        x.show(19, 0);
        Due.is("the last one alone", x.hideAll(), 1);
    }

    /** Promise 16: the greatest sum of no labels is 0. */
    private static void greatestOfNone() {
        Due.is("without points", new LabelPlacer().greatest(), 0);
        Due.is("without visible points", row(9, 255, 60, 61).greatest(), 0);
        Due.is("without places", row(9, 1, 59, 58).greatest(), 0);
        Due.is("one", row(1, 255, 30).greatest(), 1);
    }

    /** Promise 16: "STATE if more than 6 points have places" */
    private static void greatestOfSix() {
        for (int n = 1; n <= 6; n++) {
            Due.is(n + " points", Scene.apart(n, 9).greatest(), 9 * n);
            Due.is(n + " points of the least priority", Scene.apart(n, 1).greatest(), n);
        }
    }

    private static void greatestOfSeven() {
        for (int n = 7; n <= 20; n++) {
            Due.is(n + " points", Scene.apart(n, 9).greatest(), STATE);
        }
        LabelPlacer x = Scene.apart(7, 9);
        x.fill();
        Due.is("seven with labels", x.greatest(), STATE);
        x.removePoint(3);
        Due.is("six of them", x.greatest(), 54);
    }

    /** The same: those without places, visible or not, do not count. */
    private static void greatestOfPointsWithoutPlaces() {
        LabelPlacer x = Scene.apart(20, 9);
        x.setWindow(0, 0, 60, 40);
        Due.is("six in the window", x.greatest(), 54);
        x.setWindow(0, 0, 71, 40);
        // Points 3 and 8 lie in the last column.
        x.setPoint(3, 5, 1);
        x.setPoint(8, 5, 4);
        Due.is("eight visible points", x.count(1), 8);
        Due.is("two of them without places", x.greatest(), 54);
        x.setPoint(8, 5, 8);
        Due.is("one of them without", x.greatest(), STATE);
        x.setWindow(60, 40, 40, 40);
        Due.is("the last four of twenty", x.greatest(), 36);
    }

    /** Promise 16: "the greatest sum of priorities of labels that can be shown together" */
    private static void greatestTogether() {
        LabelPlacer x = row(5, 1, 20, 22, 24);
        Due.is("the first and the last", x.greatest(), 10);
        x.setPoint(1, 4, 9);
        Due.is("still", x.greatest(), 10);
        x.setPoint(0, 4, 3);
        x.setPoint(2, 4, 5);
        Due.is("the middle", x.greatest(), 9);
        x.setPoint(2, 4, 6);
        Due.is("either", x.greatest(), 9);
        x.setPoint(2, 4, 7);
        Due.is("not the middle", x.greatest(), 10);
        x.setPoint(1, 5, 128);
        Due.is("all", x.greatest(), 19);
        x.show(1, 7);
        Due.is("whatever is shown", x.greatest(), 19);
    }

    /** The same: only places count, also where side 0 is none. */
    private static void greatestWithoutTheFirstSide() {
        LabelPlacer x = row(5, 128, 20, 22);
        Due.is("one of them below", x.greatest(), 5);
        x.setPoint(0, 4, 9);
        Due.is("the greater one", x.greatest(), 9);
        x.setPoint(0, 5, 64 + 128);
        Due.is("both, with side 6", x.greatest(), 14);
    }

    /** The same: each point shows one label at most. */
    private static void greatestOfOneLabelEach() {
        Due.is("one point on all sides", row(9, 255, 30).greatest(), 9);
        LabelPlacer x = row(9, 1 + 128, 20);
        x.addPoint(26, 20, 5, 3, 5, 32);
        // Columns 21 to 24 of row 21 or 19 to 22 of row 19, and columns 21 to 25 of rows 19 to 21.
        Due.is("in the way of both places of the other", x.greatest(), 9);
        LabelPlacer y = new LabelPlacer();
        y.addPoint(20, 20, 4, 1, 9, 64 + 128);
        y.addPoint(22, 23, 5, 6, 5, 8);
        // It covers columns 17 to 21 of rows 17 to 22, and the point 0 with it.
        Due.is("a label over a point is no place", y.greatest(), 9);
        y.removePoint(1);
        y.addPoint(19, 20, 4, 3, 5, 32 + 16);
        Due.is("places on the other's cell", y.greatest(), 14);
    }

    /** The same: "can be shown", so what is shown at present does not matter. */
    private static void greatestWhateverIsShown() {
        LabelPlacer x = row(3, 1, 20, 22);
        x.setPoint(1, 4, 5);
        x.show(0, 0);
        Due.is("a lower label is in the way", x.greatest(), 5);
        x.setPoint(0, 5, 1 + 2);
        Due.is("it has another place", x.greatest(), 8);
        sidesAre("it stays", x, 0, NONE);
        x.show(0, NONE);
        Due.is("none is shown", x.greatest(), 8);
        x.show(0, 1);
        x.show(1, 0);
        Due.is("both are shown", x.greatest(), 8);
    }

    /** Six points that leave each other little room: the sum is held against a search through everything. */
    private static void greatestOfACrowd() {
        int[] sets = {15, 195, 240, 170, 85};
        for (int turn = 0; turn < 40; turn++) {
            LabelPlacer x = new LabelPlacer();
            NaiveMap y = new NaiveMap();
            for (int i = 0; i < 6; i++) {
                int[] a = {20 + i * (turn % 4), 20 + i * (turn % 3) + i % 2, 3 + turn % 5, 1 + turn % 2, 1 + (i * 5 + turn) % 9,
                    sets[turn % 5]};
                Due.is("addPoint()", x.addPoint(a[0], a[1], a[2], a[3], a[4], a[5]), y.addPoint(a[0], a[1], a[2], a[3], a[4], a[5]));
            }
            Due.is("turn " + turn, x.greatest(), y.greatest());
        }
    }

    /** The same with many maps of few sides, in most of which not all labels can be shown together. */
    private static void greatestOfManyCrowds() {
        Random dice = new Random(16);
        int notAll = 0;
        for (int turn = 0; turn < 400; turn++) {
            LabelPlacer x = new LabelPlacer();
            NaiveMap y = new NaiveMap();
            int sum = 0;
            while (x.count(0) < 6) {
                int[] a = {20 + dice.nextInt(6), 20 + dice.nextInt(5), 2 + dice.nextInt(6), 1 + dice.nextInt(3),
                    1 + dice.nextInt(9), 1 << dice.nextInt(8) | 1 << dice.nextInt(8) | 1 << dice.nextInt(8)};
                int number = x.addPoint(a[0], a[1], a[2], a[3], a[4], a[5]);
                Due.is("addPoint()", number, y.addPoint(a[0], a[1], a[2], a[3], a[4], a[5]));
                sum += number < 0 ? 0 : a[4];
            }
            int greatest = x.greatest();
            Due.is("many crowds, turn " + turn, greatest, y.greatest());
            notAll += greatest < sum ? 1 : 0;
        }
        Due.holds("not all can be shown in most of them: " + notAll, notAll > 200);
    }
}
