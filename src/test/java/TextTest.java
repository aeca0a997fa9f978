/** Promises 19 to 21: type, clear, run. */
public final class TextTest {
    private static final int MIN = Integer.MIN_VALUE, MAX = Integer.MAX_VALUE;

    public static void main(String[] args) {
        typeAndClear();
        faults();
        commandsThatAreRight();
        runsStandForCalls();
        runEmptiesTheText();
        Due.end();
    }

    private static void typeAndClear() {
        LabelPlacer x = new LabelPlacer();
        for (int letter : new int[] {-1, 128, MIN, MAX}) {
            Due.is("type(" + letter + ")", x.type(letter), LabelPlacer.BAD);
        }
        Due.is("the least", x.type(0), 1);
        Due.is("the greatest", x.type(127), 2);
        Due.is("clear()", x.clear(), 2);
        Due.is("clear() again", x.clear(), 0);
        for (int i = 1; i <= 80; i++) {
            Due.is("byte " + i, x.type(' '), i);
        }
        Due.is("byte 81", x.type(' '), LabelPlacer.FULL);
        Due.is("BAD before FULL", x.type(128), LabelPlacer.BAD);
        Due.is("count(11)", x.count(11), 80);
        Due.is("run() with blanks alone", x.run(), -2080);
        Due.is("clear() of a full text", x.clear(), 80);
        Due.is("room again", x.type('a'), 1);
    }

    private static void faultIs(String text, int fault) {
        LabelPlacer x = new LabelPlacer();
        Due.type(x, text);
        long before = x.digest();
        Due.is("run() of '" + text + "'", x.run(), -2000 - fault);
        Due.is("the text '" + text + "' stays", x.digest(), before);
    }

    private static void faults() {
        faultIs("", 0);
        faultIs("   ", 3);
        faultIs("5", 0);
        faultIs(" -", 1);
        faultIs("Pan 1 2", 0);
        faultIs("\tpan 1 2", 0);
        faultIs("pa", 0);
        faultIs("  pa", 2);
        faultIs("panx 1 2", 0);
        faultIs("panX 1 2", 3);
        faultIs("labels", 0);
        faultIs("panz 1 2", 0);
        faultIs("pana 1 2", 0);
        faultIs("zide", 0);
        faultIs("fan 1 2", 0);
        faultIs("hida", 0);
        faultIs("paint 1 1 1 1 1", 0);
        faultIs(" labellabel", 1);
        faultIs("pan", 3);
        faultIs("pan ", 4);
        faultIs("pan -", 5);
        faultIs("pan - ", 6);
        faultIs("pan --1 2", 5);
        faultIs("pan 1", 5);
        faultIs("pan 12", 6);
        faultIs("pan 1-", 6);
        faultIs("pan 1--2", 6);
        faultIs("pan 1234", 7);
        faultIs("pan 1234-5", 7);
        faultIs("pan 1 2 3", 8);
        faultIs("pan 1 2-3", 7);
        faultIs("pan 1 2 -", 8);
        faultIs("pan 1 2345", 9);
        faultIs("pan 1 2a", 7);
        faultIs("pan 1,2", 5);
        faultIs("pan 1 two", 6);
        faultIs("pan 1 2 pan", 8);
        faultIs("pan +1 2", 4);
        faultIs("window 0 0 20", 13);
        faultIs("window 0 0 20 ", 14);
        faultIs("window 0 -1 20 20", 9);
        faultIs("window0 0 20 20 1", 16);
        faultIs("window 0-0 20 20", 8);
        faultIs("point 1 1 1 1", 13);
        faultIs("point 1 1 1 1 1 1", 16);
        faultIs("point 1 1 1 1 1000", 17);
        faultIs("label 1", 6);
        faultIs("label1", 5);
        faultIs("label-", 5);
        faultIs("improve x", 8);
        faultIs("hide hide", 5);
        faultIs("hide\n", 4);
        faultIs("fill", 0);
        faultIs("push", 0);
        faultIs("hide\0", 4);
        faultIs("pan 1 2/", 7);
        faultIs("pan 1 2:", 7);
        faultIs("pan`1 2", 3);
        faultIs("pan{1 2", 3);
    }

    private static void answerIs(String text, int due) {
        LabelPlacer x = new LabelPlacer();
        x.addPoint(30, 30, 4, 1, 5, 255);
        x.show(0, 0);
        x.setWindow(10, 10, 60, 40);
        Due.type(x, text);
        Due.is("run() of '" + text + "'", x.run(), due);
        Due.is("the text '" + text + "' is emptied", x.count(11), 0);
    }

    private static void commandsThatAreRight() {
        answerIs("pan 1 2", 1);
        answerIs("  pan  1  2  ", 1);
        answerIs("pan1 2", 1);
        answerIs("pan-1-2", 1);
        answerIs("pan - 1 - 2", 1);
        answerIs("pan 1-2", 1);
        answerIs("pan 001 -000", 1);
        answerIs("pan 100-10", 0);
        answerIs("pan 999 999", LabelPlacer.BAD);
        answerIs("pan -11 0", LabelPlacer.BAD);
        answerIs("pan -10 0", 1);
        answerIs("window 0 0 60 40", 1);
        answerIs("window40 0 60 40 ", 0);
        answerIs("window 0 0 999 40", LabelPlacer.BAD);
        answerIs("point 20 20 3 2 5", 1);
        answerIs("point020 020 003 002 005", 1);
        answerIs("point 30 30 3 2 5", LabelPlacer.STATE);
        answerIs("point 200 30 3 2 5", LabelPlacer.BAD);
        answerIs("point 20 20 3 2 0", LabelPlacer.BAD);
        answerIs("label", 0);
        answerIs(" label ", 0);
        answerIs("improve", 0);
        answerIs("hide", 1);
        answerIs("hide                                                                            ", 1);
    }

    private static void runsStandForCalls() {
        LabelPlacer x = new LabelPlacer();
        LabelPlacer y = new LabelPlacer();
        runAnd(x, "point 20 20 4 1 9");
        y.addPoint(20, 20, 4, 1, 9, 255);
        runAnd(x, "point 22 21 5 3 8");
        y.addPoint(22, 21, 5, 3, 8, 255);
        Due.is("point", x.digest(), y.digest());
        runAnd(x, "window 1 2 33 44");
        y.setWindow(1, 2, 33, 44);
        Due.is("window", x.digest(), y.digest());
        runAnd(x, "label");
        Due.is("fill() gives", y.fill(), 2);
        Due.is("label", x.digest(), y.digest());
        runAnd(x, "pan 3 -2");
        y.pan(3, -2);
        Due.is("pan", x.digest(), y.digest());
        runAnd(x, "hide");
        y.hideAll();
        Due.is("hide", x.digest(), y.digest());
        x.setPoint(1, 5, 4);
        y.setPoint(1, 5, 4);
        x.show(0, 4);
        y.show(0, 4);
        runAnd(x, "improve");
        Due.is("improve() gives", y.improve(), 1);
        Due.is("improve", x.digest(), y.digest());
        Due.is("a label moved", x.point(0, 7), 1);
    }

    private static void runAnd(LabelPlacer x, String text) {
        Due.type(x, text);
        Due.holds("'" + text + "' runs", x.run() >= 0);
    }

    private static void runEmptiesTheText() {
        LabelPlacer x = new LabelPlacer();
        for (int i = 0; i < 20; i++) {
            x.addPoint(i, 100, 1, 1, 1, 255);
        }
        Due.type(x, "point 1 1 1 1 1");
        Due.is("run() into FULL", x.run(), LabelPlacer.FULL);
        Due.is("emptied", x.count(11), 0);
        Due.type(x, "point 1 1 1 1");
        Due.is("run() with a fault", x.run(), -2013);
        Due.is("it can be typed on", x.type(' '), 14);
        Due.is("run() with a fault again", x.run(), -2014);
        x.type('7');
        Due.is("run() of the whole", x.run(), LabelPlacer.FULL);
        Due.is("emptied", x.clear(), 0);
    }
}
